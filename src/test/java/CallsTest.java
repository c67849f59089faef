import com.sun.source.tree.CompilationUnitTree;
import com.sun.source.tree.MethodInvocationTree;
import com.sun.source.tree.MethodTree;
import com.sun.source.tree.NewArrayTree;
import com.sun.source.tree.NewClassTree;
import com.sun.source.util.JavacTask;
import com.sun.source.util.TreePathScanner;
import com.sun.source.util.Trees;
import java.nio.file.Path;
import java.util.ArrayList;
import java.util.HashMap;
import java.util.LinkedHashSet;
import java.util.List;
import java.util.Map;
import java.util.Set;
import javax.lang.model.element.Element;
import javax.lang.model.element.ElementKind;
import javax.tools.JavaCompiler;
import javax.tools.StandardJavaFileManager;
import javax.tools.ToolProvider;

/** The rules of LANGUAGE.md on who calls whom (8, 11) and where objects are made (12), as the compiler sees them. */
public final class CallsTest {
    private static final int DEEPEST = 8;
    private static final Check check = new Check();
    private static final Map<Element, Set<Element>> calls = new HashMap<>();
    private static final Map<Element, Integer> depths = new HashMap<>();

    public static void main(String[] args) throws Exception {
        JavaCompiler compiler = ToolProvider.getSystemJavaCompiler();
        try (StandardJavaFileManager files = compiler.getStandardFileManager(null, null, null)) {
            JavacTask task = (JavacTask) compiler.getTask(null, files, null, null, null,
                files.getJavaFileObjects(Path.of("src/main/java/EngineCell.java")));
            List<CompilationUnitTree> units = new ArrayList<>();
            task.parse().forEach(units::add);
            task.analyze();
            for (CompilationUnitTree unit : units) new Reader(Trees.instance(task)).scan(unit, null);
        }
        check.due("methods and constructors were found", calls.size() > 100 ? 1 : 0, 1);
        for (Element method : calls.keySet()) {
            int depth = depth(method, new LinkedHashSet<>());
            check.due(method + " goes " + depth + " deep", depth <= DEEPEST ? 1 : 0, 1);
        }
        check.close("CallsTest");
    }

    /** How many calls stand open at once, this one counted. */
    private static int depth(Element method, Set<Element> open) {
        Integer known = depths.get(method);
        if (known != null) return known;
        if (!open.add(method)) {
            check.due(method + " calls itself by " + open, 1, 0);
            return 0;
        }
        int deepest = 0;
        for (Element called : calls.getOrDefault(method, Set.of())) {
            if (calls.containsKey(called)) deepest = Math.max(deepest, depth(called, open));
        }
        open.remove(method);
        depths.put(method, deepest + 1);
        return deepest + 1;
    }

    /** Reads what each method calls, and looks where objects and rows are made. */
    private static final class Reader extends TreePathScanner<Void, Void> {
        private final Trees trees;
        private Element method;

        Reader(Trees trees) {
            this.trees = trees;
        }

        @Override
        public Void visitMethod(MethodTree tree, Void none) {
            method = trees.getElement(getCurrentPath());
            calls.put(method, new LinkedHashSet<>());
            super.visitMethod(tree, none);
            method = null;
            return null;
        }

        @Override
        public Void visitMethodInvocation(MethodInvocationTree tree, Void none) {
            Element called = trees.getElement(getCurrentPath());
            if (method != null) calls.get(method).add(called);
            return super.visitMethodInvocation(tree, none);
        }

        @Override
        public Void visitNewClass(NewClassTree tree, Void none) {
            Element made = trees.getElement(getCurrentPath());
            if (method != null) calls.get(method).add(made);
            dueInConstructors(tree.toString());
            return super.visitNewClass(tree, none);
        }

        @Override
        public Void visitNewArray(NewArrayTree tree, Void none) {
            dueInConstructors(tree.toString());
            return super.visitNewArray(tree, none);
        }

        /** A field's first value counts as its constructor's; a CHANNEL is made by the call that tells of it. */
        private void dueInConstructors(String made) {
            boolean fits = method == null || method.getKind() == ElementKind.CONSTRUCTOR
                || method.getSimpleName().contentEquals("channel");
            check.due(made + " is made by " + method, fits ? 1 : 0, 1);
        }
    }
}

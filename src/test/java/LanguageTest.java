import java.lang.reflect.Constructor;
import java.lang.reflect.Executable;
import java.lang.reflect.Field;
import java.lang.reflect.Method;
import java.lang.reflect.Modifier;
import java.nio.charset.StandardCharsets;
import java.nio.file.Files;
import java.nio.file.Path;
import java.util.Set;
import java.util.TreeSet;
import java.util.regex.Matcher;
import java.util.regex.Pattern;

/** The rules of LANGUAGE.md that a program can look at; it runs in the project's own folder. */
public final class LanguageTest {
    private static final String[] FACE = {
        "int map(int,int)", "long torque(int,int)", "int lag(int)", "int step(int,int,int,int)",
        "int load(int,int,int,int)", "int clear()", "int stepped(int,int)", "int start()", "int tick(int)",
        "int stop()", "int reset()", "int told(int)", "int was(int,int)", "int mark(int)",
        "int channel(int,int,int,int,int)", "int limit(int,int)", "int lose(int,int,int)",
        "int correct(int,int,int,int)", "int other(int)", "long reading(int,int)", "int state(int,int)",
        "long report(int,int,int)", "int valid(int)", "long law(int,int)", "int sheet(int,int,int)", "int drop(int)",
        "int put(int,int,int)", "long at(int,int,int)", "int tell(int)", "int draw(int)", "int as(int,int)",
        "int trace()", "int fault()"};
    private static final Set<String> CONSTANTS = Set.of("UNKNOWN", "OUTSIDE", "STATE", "FULL", "NONE", "LOST");
    private static final Pattern RULED_OUT = Pattern.compile(
        "\\b(throw|throws|try|catch|synchronized|assert|import|package|double|float|record|volatile|transient|native"
            + "|System|Thread|Object|Exact)\\b|Exact\\(|->|::|@");
    private static final Check check = new Check();

    public static void main(String[] args) throws Exception {
        String source = Files.readString(Path.of("src/main/java/EngineCell.java"), StandardCharsets.ISO_8859_1);
        signs(source);
        words(source);
        methodLengths(source);
        face();
        names();
        Class<?>[] inside = EngineCell.class.getDeclaredClasses();
        check.due("some twelve classes", inside.length + 1 <= 12 ? 1 : 0, 1);
        fields(EngineCell.class);
        for (Class<?> one : inside) {
            check.due(one + " is static", Modifier.isStatic(one.getModifiers()) ? 1 : 0, 1);
            check.due(one + " is seen outside", one.getModifiers() & (Modifier.PUBLIC | Modifier.PROTECTED), 0);
            check.due(one + " has classes inside", one.getDeclaredClasses().length, 0);
            fields(one);
            for (Executable method : one.getDeclaredMethods()) parameters(method);
            for (Executable method : one.getDeclaredConstructors()) parameters(method);
        }
        check.close("LanguageTest");
    }

    private static void signs(String source) {
        for (int i = 0; i < source.length(); i++) {
            char sign = source.charAt(i);
            if (sign > 126 || sign < 32 && sign != '\n') check.due("the sign at " + i, sign, 32);
        }
        check.due("an end of line", source.charAt(source.length() - 1), '\n');
    }

    private static void words(String source) {
        String code = source.replaceAll("(?s)/\\*.*?\\*/", "").replaceAll("//[^\n]*", "");
        Matcher found = RULED_OUT.matcher(code);
        while (found.find()) check.due("'" + found.group() + "' is ruled out", 1, 0);
        check.due("texts", code.indexOf('"'), -1);
    }

    /** A method begins with a line that ends in ") {" and has a type, and ends where its indent ends. */
    private static void methodLengths(String source) {
        String[] lines = source.split("\n");
        for (int i = 0; i < lines.length; i++) {
            if (lines[i].matches("( {4}| {8})[A-Za-z][\\w\\[\\] ]* ?\\w*\\(.*\\) \\{") && !lines[i].contains(" (")) {
                String end = lines[i].replaceAll("\\S.*", "") + "}";
                int length = 1;
                while (i + length < lines.length && !lines[i + length].equals(end)) length++;
                check.due("a short method at line " + (i + 1), length < 60 ? 1 : 0, 1);
            }
        }
    }

    private static void face() {
        Set<String> due = new TreeSet<>(Set.of(FACE));
        for (Method method : EngineCell.class.getDeclaredMethods()) {
            if (Modifier.isPrivate(method.getModifiers())) continue;
            String text = method.toString().replace("EngineCell.", "");
            check.due(text + " is of the face", text.startsWith("public ") && due.remove(text.substring(7)) ? 1 : 0, 1);
        }
        check.due("what is not there: " + due, due.size(), 0);
        Constructor<?>[] made = EngineCell.class.getDeclaredConstructors();
        check.due("constructors", made.length, 1);
        check.due("the constructor's parameters", made[0].getParameterCount(), 0);
        check.due("public constructor", made[0].getModifiers(), Modifier.PUBLIC);
        check.due("public final", EngineCell.class.getModifiers(), Modifier.PUBLIC | Modifier.FINAL);
        int constants = 0;
        for (Field field : EngineCell.class.getDeclaredFields()) {
            if (Modifier.isPrivate(field.getModifiers())) continue;
            check.due(field + " is of the face", CONSTANTS.contains(field.getName()) ? 1 : 0, 1);
            constants++;
        }
        check.due("constants", constants, CONSTANTS.size());
    }

    /** No private method, in the class or inside it, bears the name of a public one. */
    private static void names() {
        Set<String> open = new TreeSet<>();
        for (Method method : EngineCell.class.getDeclaredMethods()) {
            if (Modifier.isPublic(method.getModifiers())) open.add(method.getName());
        }
        for (Method method : EngineCell.class.getDeclaredMethods()) {
            if (!Modifier.isPublic(method.getModifiers())) name(open, method);
        }
        for (Class<?> inside : EngineCell.class.getDeclaredClasses()) {
            for (Method method : inside.getDeclaredMethods()) name(open, method);
        }
    }

    private static void name(Set<String> open, Method method) {
        check.due(method + " bears a public one's name", open.contains(method.getName()) ? 1 : 0, 0);
    }

    private static void fields(Class<?> one) {
        int own = 0;
        for (Field field : one.getDeclaredFields()) {
            if (!Modifier.isStatic(field.getModifiers())) own++;
            else check.due(field + " is final", Modifier.isFinal(field.getModifiers()) ? 1 : 0, 1);
        }
        check.due(one + " has some twenty fields", own <= 20 ? 1 : 0, 1);
    }

    private static void parameters(Executable method) {
        check.due(method + " takes at most seven", method.getParameterCount() <= 7 ? 1 : 0, 1);
    }
}

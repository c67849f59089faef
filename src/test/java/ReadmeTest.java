import java.lang.reflect.InvocationTargetException;
import java.lang.reflect.Method;
import java.lang.reflect.Modifier;
import java.nio.file.Files;
import java.nio.file.Path;
import java.util.ArrayList;
import java.util.List;
import java.util.regex.Matcher;
import java.util.regex.Pattern;

/** The example in README.md: each call of it answers what stands behind it; each call of the face is in the list. */
public final class ReadmeTest {
    private static final Pattern CALL = Pattern.compile("cell\\.(\\w+)\\(([-0-9, ]*)\\); +// = (-?[0-9]+|LOST)\\b.*");
    private static final Check check = new Check();

    public static void main(String[] args) throws Exception {
        String page = Files.readString(Path.of("README.md"));
        EngineCell cell = null;
        for (String line : example(page)) {
            Matcher call = CALL.matcher(line);
            if (line.equals("EngineCell cell = new EngineCell();")) {
                cell = new EngineCell();
            } else if (!call.matches() || cell == null) {
                check.due("a line that is no call: " + line, 1, 0);
            } else {
                long due = call.group(3).equals("LOST") ? EngineCell.LOST : Long.parseLong(call.group(3));
                check.due(line, answer(cell, call.group(1), numbers(call.group(2))), due);
            }
        }
        for (Method method : EngineCell.class.getDeclaredMethods()) {
            boolean face = Modifier.isPublic(method.getModifiers());
            boolean there = page.contains("`" + method.getName() + "`");
            if (face) check.due("the page names " + method.getName(), there ? 1 : 0, 1);
        }
        check.close("ReadmeTest");
    }

    /** The lines of the page's piece of Java, but for empty ones and comments. */
    private static List<String> example(String page) {
        String begin = "```java\n";
        int from = page.indexOf(begin) + begin.length();
        List<String> lines = new ArrayList<>();
        for (String line : page.substring(from, page.indexOf("```", from)).split("\n")) {
            if (!line.isEmpty() && !line.startsWith("//")) lines.add(line);
        }
        return lines;
    }

    private static Object[] numbers(String told) {
        if (told.isEmpty()) return new Object[0];
        List<Object> numbers = new ArrayList<>();
        for (String number : told.split(", ")) numbers.add(Integer.valueOf(number));
        return numbers.toArray();
    }

    private static long answer(EngineCell cell, String name, Object[] numbers)
            throws IllegalAccessException, InvocationTargetException {
        for (Method method : EngineCell.class.getDeclaredMethods()) {
            if (method.getName().equals(name) && method.getParameterCount() == numbers.length) {
                return ((Number) method.invoke(cell, numbers)).longValue();
            }
        }
        check.due("there is a call " + name, 0, 1);
        return 0;
    }
}

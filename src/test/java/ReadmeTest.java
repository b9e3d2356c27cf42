import java.io.IOException;
import java.lang.reflect.InvocationTargetException;
import java.lang.reflect.Method;
import java.nio.file.Files;
import java.nio.file.Path;
import java.util.regex.Matcher;
import java.util.regex.Pattern;

/** What README.md shows is so: its example answers what it says there, and its table has all calls of the face. */
public final class ReadmeTest {
    private static final Pattern CAVE = Pattern.compile("for \\(char c : \"([^\"]+)\"");
    private static final Pattern CALL = Pattern.compile("(?m)^hours\\.(\\w+)\\(([-0-9, ]*)\\); *// (-?\\d+):");

    public static void main(String[] args) throws IOException, ReflectiveOperationException {
        String text = Files.readString(Path.of("README.md"));
        example(text);
        table(text);
        Checks.end();
    }

    private static void example(String text) throws ReflectiveOperationException {
        Matcher cave = CAVE.matcher(text);
        Checks.holds("README.md has a cave", cave.find());
        HermitHours hours = new HermitHours();
        Checks.write(hours, cave.group(1));
        Matcher call = CALL.matcher(text);
        int rows = 0;
        while (call.find()) {
            rows++;
            Checks.due("README.md, " + call.group(1) + "(" + call.group(2) + ")",
                    answer(hours, call.group(1), call.group(2)), Long.parseLong(call.group(3)));
        }
        Checks.due("calls of the example", rows, text.lines().filter(line -> line.startsWith("hours.")).count());
        Checks.holds("the example has calls", rows > 0);
    }

    private static long answer(HermitHours hours, String name, String numbers)
            throws IllegalAccessException, InvocationTargetException {
        String[] words = numbers.isBlank() ? new String[0] : numbers.split(", *");
        Object[] given = new Object[words.length];
        for (int i = 0; i < words.length; i++) {
            given[i] = Integer.parseInt(words[i].trim());
        }
        for (Method method : HermitHours.class.getMethods()) {
            if (method.getName().equals(name) && method.getParameterCount() == given.length) {
                return ((Number) method.invoke(hours, given)).longValue();
            }
        }
        throw new IllegalStateException("no call " + name + " with " + given.length + " numbers");
    }

    private static void table(String text) {
        for (Method method : HermitHours.class.getDeclaredMethods()) {
            if (java.lang.reflect.Modifier.isPublic(method.getModifiers())) {
                Checks.holds("README.md tells of " + method.getName(), text.contains("| `" + method.getName() + "("));
            }
        }
    }
}

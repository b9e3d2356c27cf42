import java.io.IOException;
import java.lang.management.ManagementFactory;
import java.lang.reflect.Field;
import java.lang.reflect.Method;
import java.lang.reflect.Modifier;
import java.nio.file.Files;
import java.nio.file.Path;
import java.util.Set;
import java.util.TreeSet;
import java.util.regex.Matcher;
import java.util.regex.Pattern;

/** The rules of LANGUAGE.md that can be read off the class and its text, and the room that calls take. */
public final class LanguageTest {
    private static final Path SOURCE = Path.of("src/main/java/HermitHours.java");
    private static final Pattern METHOD = Pattern.compile("( {4}| {8})(?!(if|for|while|switch)\\b)[a-z][^=;]*\\) \\{");
    private static final Set<String> FACE = Set.of("letter", "blank", "fault", "cave", "pilgrim", "as", "come",
            "trouble", "patience", "day", "waiting", "order", "fit", "see", "forget", "seasons", "image", "restore",
            "count", "digest");
    private static final Set<String> CONSTANTS = Set.of("NONE", "UNKNOWN", "OUTSIDE", "STATE", "FULL");
    private static final Set<String> LIBRARY =
            Set.of("System.arraycopy", "Math.min", "Math.max", "Integer.bitCount");
    private static final Set<Class<?>> CONSTANT_TYPES = Set.of(int.class, long.class, boolean.class, char.class,
            String.class, int[].class, long[].class, char[].class, byte[].class);
    private static final String[] RULED_OUT = {"throw", "throws", "try", "catch", "synchronized", "assert", "import",
        "package", "->", "::", "Object", "protected", "static\\s*\\{"};

    public static void main(String[] args) throws IOException {
        face();
        classesInside();
        sizes();
        text();
        library();
        room();
        Checks.end();
    }

    private static void face() {
        Checks.holds("the class is public and final",
                HermitHours.class.getModifiers() == (Modifier.PUBLIC | Modifier.FINAL));
        Set<String> methods = new TreeSet<>(), constants = new TreeSet<>();
        for (Method method : HermitHours.class.getDeclaredMethods()) {
            if (!Modifier.isPrivate(method.getModifiers())) {
                methods.add(method.getName());
            } else {
                Checks.holds(method + " has a name of its own", !FACE.contains(method.getName()));
            }
        }
        for (Field field : HermitHours.class.getDeclaredFields()) {
            if (!Modifier.isPrivate(field.getModifiers())) {
                constants.add(field.getName());
            }
        }
        Checks.holds("the methods are the face's: " + methods, methods.equals(FACE));
        Checks.holds("the constants are the face's: " + constants, constants.equals(CONSTANTS));
        Checks.due("constructors", HermitHours.class.getDeclaredConstructors().length, 1);
    }

    private static void classesInside() {
        Class<?>[] inside = HermitHours.class.getDeclaredClasses();
        Checks.holds("at most twelve classes", inside.length <= 12);
        for (Class<?> one : inside) {
            Checks.holds(one + " is static", Modifier.isStatic(one.getModifiers()));
            Checks.holds(one + " is not of the face", !Modifier.isPublic(one.getModifiers()));
            for (Method method : one.getDeclaredMethods()) {
                Checks.holds(method + " has a name of its own", !FACE.contains(method.getName()));
            }
        }
    }

    /** Rules 5 and 11: what static fields may be, how many fields and parameters there are, how long methods are. */
    private static void sizes() throws IOException {
        sizesOf(HermitHours.class);
        for (Class<?> one : HermitHours.class.getDeclaredClasses()) {
            sizesOf(one);
        }
        String begun = null;
        int lines = 0;
        for (String line : Files.readAllLines(SOURCE)) {
            Matcher head = METHOD.matcher(line);
            if (head.matches()) {
                begun = head.group(1);
                lines = 0;
            }
            lines++;
            if (begun != null && line.equals(begun + "}")) {
                Checks.holds("a method of " + lines + " lines is short", lines <= 60);
                begun = null;
            }
        }
    }

    private static void sizesOf(Class<?> one) {
        int fields = 0;
        for (Field field : one.getDeclaredFields()) {
            if (!Modifier.isStatic(field.getModifiers())) {
                fields++;
            } else {
                Checks.holds(field + " is a constant", Modifier.isFinal(field.getModifiers())
                        && CONSTANT_TYPES.contains(field.getType()));
            }
        }
        Checks.holds(one + " has at most twenty fields", fields <= 20);
        for (Method method : one.getDeclaredMethods()) {
            Checks.holds(method + " has at most seven parameters", method.getParameterCount() <= 7);
        }
    }

    /** Rule 4: of the library, what the class uses. */
    private static void library() throws IOException {
        Matcher call = Pattern.compile("\\b[A-Z]\\w*\\.\\w+").matcher(code());
        while (call.find()) {
            Checks.holds(call.group() + " is of the library that may be used", LIBRARY.contains(call.group()));
        }
    }

    private static String code() throws IOException {
        return Files.readString(SOURCE).replaceAll("(?s)/\\*.*?\\*/", "").replaceAll("//.*", "");
    }

    private static void text() throws IOException {
        String text = Files.readString(SOURCE);
        String code = code();
        for (String word : RULED_OUT) {
            boolean isName = Character.isLetter(word.charAt(0));
            Pattern pattern = Pattern.compile(isName ? "\\b" + word + (word.endsWith("{") ? "" : "\\b") : word);
            Checks.holds("the text is without " + word, !pattern.matcher(code).find());
        }
        Checks.holds("signs 1 to 127 alone", text.chars().allMatch(sign -> sign >= 1 && sign <= 127));
    }

    /** The rows are made with the object: no call makes any. */
    private static void room() {
        com.sun.management.ThreadMXBean threads =
                (com.sun.management.ThreadMXBean) ManagementFactory.getThreadMXBean();
        HermitHours x = Checks.of("b32,s31,t53,p02,e00;7");
        x.see(3, 1);
        callAll(x);
        long before = threads.getCurrentThreadAllocatedBytes();
        callAll(x);
        long between = threads.getCurrentThreadAllocatedBytes();
        for (int i = 0; i < 200; i++) {
            callAll(x);
        }
        long behind = threads.getCurrentThreadAllocatedBytes();
        // Asking takes some room itself; 200 rounds with one object each would take 3200 at the least.
        Checks.holds("calls make no objects: " + (behind - between), behind - between < between - before + 1600);
    }

    private static void callAll(HermitHours x) {
        x.letter('p');
        x.fault();
        x.blank();
        x.pilgrim(1, 5);
        x.pilgrim(1, 9);
        x.as(0, 2);
        x.come(1, 2);
        x.trouble(1, 2);
        x.patience(8);
        x.day(2);
        x.waiting(2);
        x.order(10);
        x.fit(1, 1);
        x.see(0, 0);
        x.seasons(30, 1, 1);
        x.image();
        x.restore();
        x.forget();
        x.digest();
    }
}

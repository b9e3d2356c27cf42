import java.util.StringJoiner;

/** What every test needs: calls are compared with what is due, and the test ends with exit code 1 if one differs. */
final class Checks {
    static final int NONE = -1, UNKNOWN = -101, OUTSIDE = -102, STATE = -103, FULL = -104;

    private static int made = 0;
    private static int wrong = 0;

    private Checks() {
    }

    static void due(String call, long got, long want) {
        made++;
        if (got != want) {
            wrong++;
            System.out.println(call + " answered " + got + ", due is " + want);
        }
    }

    static void holds(String what, boolean isSo) {
        made++;
        if (!isSo) {
            wrong++;
            System.out.println("not so: " + what);
        }
    }

    /** Writes a text, letter by letter. */
    static void write(HermitHours x, String text) {
        for (int i = 0; i < text.length(); i++) {
            x.letter(text.charAt(i));
        }
    }

    /** A new object whose cave is the text. */
    static HermitHours of(String text) {
        HermitHours x = new HermitHours();
        write(x, text);
        holds(text + " is a cave", x.cave() >= 2);
        return x;
    }

    /** What pilgrim() tells of one thing for all, with spaces between. */
    static String all(HermitHours x, int what) {
        StringJoiner all = new StringJoiner(" ");
        for (int i = 0; i < x.count(0); i++) {
            all.add(Integer.toString(x.pilgrim(i, what)));
        }
        return all.toString();
    }

    static void same(String what, String got, String want) {
        made++;
        if (!got.equals(want)) {
            wrong++;
            System.out.println(what + " is " + got + ", due is " + want);
        }
    }

    static void end() {
        System.out.println(made + " checks, " + wrong + " wrong");
        if (wrong != 0) {
            System.exit(1);
        }
    }
}

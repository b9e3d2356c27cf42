import java.util.StringJoiner;
import java.util.function.IntUnaryOperator;

/** What every test needs: calls are compared with what is due, and the test ends with exit code 1 if one differs. */
final class Checks {
    static final int NONE = -1, UNKNOWN = -101, OUTSIDE = -102, STATE = -103, FULL = -104;

    private static int made = 0;
    private static int wrong = 0;

    private Checks() {
    }

    static void due(String call, long got, long want) {
        made++;
        if (got != want) {
            wrong++;
            System.out.println(call + " answered " + got + ", due is " + want);
        }
    }

    static void holds(String what, boolean isSo) {
        made++;
        if (!isSo) {
            wrong++;
            System.out.println("not so: " + what);
        }
    }

    /** Writes a text, letter by letter. */
    static void write(HermitHours x, String text) {
        for (int i = 0; i < text.length(); i++) {
            x.letter(text.charAt(i));
        }
    }

    /** A new object whose cave is the text. */
    static HermitHours of(String text) {
        HermitHours x = new HermitHours();
        write(x, text);
        holds(text + " is a cave", x.cave() >= 2);
        return x;
    }

    /** What pilgrim() tells of one thing for all, with spaces between. */
    static String all(HermitHours x, int what) {
        return row(0, x.count(0) - 1, pilgrim -> x.pilgrim(pilgrim, what));
    }

    /** What a call answers for each number from the first to the last, with spaces between. */
    static String row(int first, int last, IntUnaryOperator call) {
        StringJoiner row = new StringJoiner(" ");
        for (int number = first; number <= last; number++) {
            row.add(Integer.toString(call.applyAsInt(number)));
        }
        return row.toString();
    }

    /** Each of the numbers, and the least and the greatest int, is refused with the same answer. */
    static void refused(String call, int answer, IntUnaryOperator made, int... numbers) {
        for (int number : numbers) {
            due(call + " of " + number, made.applyAsInt(number), answer);
        }
        due(call + " of the least int", made.applyAsInt(Integer.MIN_VALUE), answer);
        due(call + " of the greatest int", made.applyAsInt(Integer.MAX_VALUE), answer);
    }

    static void same(String what, String got, String want) {
        made++;
        if (!got.equals(want)) {
            wrong++;
            System.out.println(what + " is " + got + ", due is " + want);
        }
    }

    static void end() {
        System.out.println(made + " checks, " + wrong + " wrong");
        if (wrong != 0) {
            System.exit(1);
        }
    }
}

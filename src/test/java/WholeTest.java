/** Promises 18 to 21: image, restore, count, digest; and the constants. */
public final class WholeTest {
    private static final long EIGHT_NOUGHTS = 852891037441L;

    public static void main(String[] args) {
        constants();
        images();
        counts();
        digests();
        Checks.end();
    }

    private static void constants() {
        Checks.due("NONE", HermitHours.NONE, -1);
        Checks.due("UNKNOWN", HermitHours.UNKNOWN, -101);
        Checks.due("OUTSIDE", HermitHours.OUTSIDE, -102);
        Checks.due("STATE", HermitHours.STATE, -103);
        Checks.due("FULL", HermitHours.FULL, -104);
    }

    private static void images() {
        HermitHours x = new HermitHours();
        Checks.due("image(), no cave", x.image(), Checks.STATE);
        Checks.due("restore(), no cave", x.restore(), Checks.STATE);
        x = Checks.of("p01,t12,e23;7");
        Checks.due("restore(), none kept", x.restore(), Checks.STATE);
        x.come(0, 4);
        x.see(3, 1);
        x.see(4, 2);
        Checks.due("image()", x.image(), 1);
        x.come(0, 9);
        x.come(2, 0);
        x.trouble(1, 5);
        x.patience(20);
        x.forget();
        x.see(7, 5);
        x.letter('q');
        long digest = x.digest();
        Checks.due("restore()", x.restore(), 1);
        Checks.holds("another digest after restore()", digest != x.digest());
        Checks.same("comings then", Checks.all(x, 2), "4 2 3");
        Checks.same("troubles then", Checks.all(x, 1), "0 1 2");
        Checks.due("patience then", x.count(1), 7);
        Checks.due("changes then", x.count(4), 1);
        Checks.due("seen then", x.count(5), 2);
        Checks.due("letters then", x.count(6), 1);
        x.come(1, 0);
        x.forget();
        Checks.due("restore() again", x.restore(), 1);
        Checks.same("comings again", Checks.all(x, 2), "4 2 3");
        x.trouble(0, 3);
        Checks.due("a later image()", x.image(), 2);
        x.trouble(0, 4);
        Checks.due("restore() of the later", x.restore(), 2);
        Checks.same("troubles of the later", Checks.all(x, 1), "3 1 2");
        Checks.due("cave() refused", x.cave(), Checks.STATE);
        Checks.due("restore() after that", x.restore(), 2);
        x.blank();
        Checks.write(x, "p01,t12,e23;7");
        x.cave();
        Checks.due("restore() after the like cave", x.restore(), Checks.STATE);
        Checks.due("changes after it", x.count(4), 0);
        seenIsKept();
    }

    private static void seenIsKept() {
        HermitHours x = Checks.of("p00,p05;0");
        x.see(4, 2);
        x.image();
        x.forget();
        x.see(7, 1);
        Checks.due("when, another seen", x.pilgrim(1, 8), 768);
        x.restore();
        Checks.due("when, as kept", x.pilgrim(1, 8), 31);
    }

    private static void counts() {
        HermitHours x = Checks.of("p05,t15,e25,s55,b55;8");
        int[] want = {5, 8, 7, 4, 0, 0, 0, 1};
        for (int what = 0; what <= 7; what++) {
            Checks.due("count(" + what + ")", x.count(what), want[what]);
        }
        x.come(0, 1);
        x.trouble(0, 5);
        x.patience(3);
        x.see(0, 0);
        x.letter('p');
        x.letter('p');
        x.day(0);
        x.seasons(1, 1, 1);
        int[] then = {5, 3, 7, 3, 3, 1, 2, 1};
        for (int what = 0; what <= 7; what++) {
            Checks.due("count(" + what + ") then", x.count(what), then[what]);
        }
        Checks.due("count(-1)", x.count(-1), Checks.OUTSIDE);
        Checks.due("count(8)", x.count(8), Checks.OUTSIDE);
        Checks.due("count(least)", x.count(Integer.MIN_VALUE), Checks.OUTSIDE);
    }

    private static void digests() {
        HermitHours x = new HermitHours();
        Checks.due("digest() of a new object", x.digest(), 991 * EIGHT_NOUGHTS);
        x.letter('p');
        Checks.due("digest() with a letter", x.digest(), (991 * 31 + 112) * EIGHT_NOUGHTS + 31);
        x = Checks.of("b32,s31,t53,p02,e00;7");
        x.see(3, 1);
        Checks.write(x, "p7");
        Checks.due("digest() of all that is told", x.digest(), digestAsTold(x));
        Checks.due("digest() again", x.digest(), digestAsTold(x));
    }

    private static long digestAsTold(HermitHours x) {
        long h = 991;
        for (int i = 0; i < 5; i++) {
            for (int what = 0; what <= 9; what++) {
                h = 31 * h + x.pilgrim(i, what);
            }
            h = 31 * (31 * h + x.fit(i, 0)) + x.fit(i, 1);
        }
        for (int what = 0; what <= 4; what++) {
            h = 31 * h + x.day(what);
        }
        for (int slot = 0; slot <= 19; slot++) {
            h = 31 * h + x.waiting(slot);
        }
        h = 31 * h + x.order(0);
        for (int what = 10; what <= 14; what++) {
            h = 31 * h + x.order(what);
        }
        h = 31 * (31 * h + 'p') + '7';
        for (int what = 0; what <= 7; what++) {
            h = 31 * h + x.count(what);
        }
        return h;
    }
}

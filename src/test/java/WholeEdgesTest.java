import java.math.BigInteger;

/** The boundary cases of promises 18 to 21, each with what the document says of it. */
public final class WholeEdgesTest {
    public static void main(String[] args) {
        imageWithoutCave();
        imageOfNoChange();
        theLatestImage();
        imageOfFullAndOfNothingSeen();
        imageIsNotChanged();
        imageKeepsNoPage();
        restoreOfNone();
        restoreAgain();
        restoreAfterAnotherCave();
        restoreAfterARefusedCave();
        changesGoOnFromTheImage();
        whatOfACount();
        countsAtTheLeast();
        countsAtTheMost();
        countOfRefusals();
        digestWithoutCave();
        digestOfAFullPage();
        digestWraps();
        digestChangesNothing();
        fiveHundredAndTwelveCalls();
        Checks.end();
    }

    /** "STATE: no CAVE" */
    private static void imageWithoutCave() {
        HermitHours x = new HermitHours();
        Checks.due("image(), no cave", x.image(), Checks.STATE);
        Checks.due("restore(), no cave", x.restore(), Checks.STATE);
        Checks.write(x, "p00,p00;9");
        Checks.due("image(), a cave on the page alone", x.image(), Checks.STATE);
        x.cave();
        Checks.due("restore(), the image was refused", x.restore(), Checks.STATE);
    }

    private static void imageOfNoChange() {
        HermitHours x = Checks.of("p01,t12;3");
        long digest = x.digest();
        Checks.due("image() of no change", x.image(), 0);
        Checks.due("restore() at once", x.restore(), 0);
        Checks.due("digest() after both", x.digest(), digest);
    }

    /** "An IMAGE is kept (one; the latest)" */
    private static void theLatestImage() {
        HermitHours x = Checks.of("p01,t12;3");
        x.image();
        x.come(0, 5);
        Checks.due("the second image()", x.image(), 1);
        Checks.due("the third image()", x.image(), 1);
        x.come(0, 7);
        Checks.due("restore()", x.restore(), 1);
        Checks.same("comings of the latest", Checks.all(x, 2), "5 2");
    }

    /** "An IMAGE keeps .. SEEN", also eight, also none. */
    private static void imageOfFullAndOfNothingSeen() {
        HermitHours x = Checks.of("p00,p05;0");
        x.image();
        for (int many = 1; many <= 8; many++) {
            x.see(4, 2);
        }
        x.restore();
        Checks.due("seen, none kept", x.count(5), 0);
        Checks.due("when, none kept", x.pilgrim(1, 8), 1023);
        for (int many = 1; many <= 7; many++) {
            x.see(4, 2);
        }
        x.see(3, 1);
        x.image();
        x.forget();
        x.see(0, 1);
        x.restore();
        Checks.due("seen, eight kept", x.count(5), 8);
        Checks.due("when, eight kept", x.pilgrim(1, 8), 16);
        Checks.due("a ninth after restore()", x.see(4, 2), Checks.FULL);
    }

    /** Neither what comes behind image() nor what comes behind restore() goes into it. */
    private static void imageIsNotChanged() {
        HermitHours x = Checks.of("p01,t12,e23;3");
        x.see(1, 1);
        x.image();
        long digest = x.digest();
        for (int round = 0; round < 3; round++) {
            x.come(0, 9);
            x.come(2, 0);
            x.trouble(1, 5);
            x.patience(20);
            x.forget();
            x.see(7, 5);
            x.see(8, 5);
            Checks.holds("another digest() by changes", x.digest() != digest);
            Checks.due("restore() " + round, x.restore(), 0);
            Checks.due("digest() after restore() " + round, x.digest(), digest);
        }
    }

    /** Letters and readings are not of the IMAGE. */
    private static void imageKeepsNoPage() {
        HermitHours x = Checks.of("p01,t12;3");
        Checks.write(x, "ab");
        x.image();
        Checks.write(x, "c");
        x.restore();
        Checks.due("letters after restore()", x.count(6), 3);
        x.blank();
        x.restore();
        Checks.due("letters after blank() and restore()", x.count(6), 0);
        Checks.due("readings", x.count(7), 1);
    }

    /** "STATE: none was kept" */
    private static void restoreOfNone() {
        HermitHours x = Checks.of("p01,t12;3");
        x.come(0, 5);
        x.see(0, 0);
        long digest = x.digest();
        Checks.due("restore() of none", x.restore(), Checks.STATE);
        Checks.due("digest() after it", x.digest(), digest);
    }

    private static void restoreAgain() {
        HermitHours x = Checks.of("p01,t12;3");
        x.come(0, 5);
        x.image();
        Checks.due("restore()", x.restore(), 1);
        Checks.due("restore() again", x.restore(), 1);
        x.patience(0);
        Checks.due("restore() a third time", x.restore(), 1);
        Checks.due("patience then", x.count(1), 3);
    }

    /** "or there is another CAVE since": one of the like text as well, until an image of it is kept */
    private static void restoreAfterAnotherCave() {
        HermitHours x = Checks.of("p01,t12;3");
        x.come(0, 5);
        x.image();
        Checks.write(x, "p01,t12;3");
        x.cave();
        x.patience(7);
        long digest = x.digest();
        Checks.due("restore() after another cave", x.restore(), Checks.STATE);
        Checks.due("digest() after it", x.digest(), digest);
        Checks.due("image() of the other cave", x.image(), 1);
        x.patience(8);
        Checks.due("restore() of the other cave", x.restore(), 1);
        Checks.due("patience then", x.count(1), 7);
    }

    private static void restoreAfterARefusedCave() {
        HermitHours x = Checks.of("p01,t12;3");
        x.come(0, 5);
        x.image();
        x.come(0, 6);
        Checks.write(x, "p01;3");
        Checks.due("cave() of one pilgrim", x.cave(), Checks.STATE);
        Checks.due("restore() after it", x.restore(), 1);
        Checks.same("comings then", Checks.all(x, 2), "5 2");
    }

    private static void changesGoOnFromTheImage() {
        HermitHours x = Checks.of("p01,t12;3");
        x.come(0, 5);
        x.trouble(0, 5);
        x.image();
        x.patience(5);
        x.patience(6);
        x.restore();
        x.come(1, 5);
        Checks.due("changes", x.count(4), 3);
        Checks.due("image() then", x.image(), 3);
    }

    private static void whatOfACount() {
        HermitHours x = new HermitHours();
        Checks.refused("count(), no cave", Checks.OUTSIDE, x::count, -1, 8);
        HermitHours y = Checks.of("p00,p00;9");
        Checks.refused("count()", Checks.OUTSIDE, y::count, -1, 8);
    }

    private static void countsAtTheLeast() {
        HermitHours x = new HermitHours();
        Checks.same("counts, no cave", Checks.row(0, 7, x::count), "0 0 0 0 0 0 0 0");
        x.see(0, 0);
        x.letter('p');
        Checks.same("counts, no cave but a page", Checks.row(0, 7, x::count), "0 0 0 0 0 1 1 0");
        x = Checks.of("p30,p39;0");
        Checks.same("counts of the least cave", Checks.row(0, 7, x::count), "2 0 2 1 0 0 0 1");
    }

    private static void countsAtTheMost() {
        HermitHours x = Checks.of("t00,b10,t20,b30,t50;9");
        x.patience(20);
        for (int many = 1; many <= 9; many++) {
            x.see(0, 0);
        }
        Checks.write(x, "p00,p00,p00,p00,p00,p00,p");
        Checks.same("counts of the greatest cave", Checks.row(0, 7, x::count), "5 20 10 5 1 8 24 1");
    }

    /** "they change nothing": a refused call does not count. */
    private static void countOfRefusals() {
        HermitHours x = Checks.of("p00,p10;9");
        x.come(2, 0);
        x.come(0, 10);
        x.trouble(2, 0);
        x.trouble(0, 6);
        x.patience(21);
        x.cave();
        x.letter(0);
        x.see(20, 0);
        Checks.same("counts after refusals", Checks.row(0, 7, x::count), "2 9 2 2 0 0 0 1");
    }

    private static long digestOf(int... numbers) {
        BigInteger h = BigInteger.valueOf(991);
        for (int number : numbers) {
            h = h.multiply(BigInteger.valueOf(31)).add(BigInteger.valueOf(number));
        }
        return h.longValue();
    }

    /** "with a CAVE what day() tells ..": without one the letters and the counts alone */
    private static void digestWithoutCave() {
        HermitHours x = new HermitHours();
        Checks.due("digest() of nothing", x.digest(), digestOf(0, 0, 0, 0, 0, 0, 0, 0));
        x.see(19, 5);
        Checks.due("digest() of one seen", x.digest(), digestOf(0, 0, 0, 0, 0, 1, 0, 0));
        x.letter(1);
        x.letter(126);
        Checks.due("digest() of two letters", x.digest(), digestOf(1, 126, 0, 0, 0, 0, 0, 1, 2, 0));
        x.blank();
        x.forget();
        Checks.due("digest() of nothing again", x.digest(), digestOf(0, 0, 0, 0, 0, 0, 0, 0));
    }

    private static void digestOfAFullPage() {
        HermitHours x = new HermitHours();
        int[] numbers = new int[32];
        for (int place = 0; place < 24; place++) {
            x.letter(126 - place);
            numbers[place] = 126 - place;
        }
        numbers[30] = 24;
        Checks.due("digest() of a full page", x.digest(), digestOf(numbers));
    }

    /** "as longs, wrapping", with NONE among the numbers; all of them worked out by hand */
    private static void digestWraps() {
        HermitHours x = Checks.of("p00,s19;2");
        x.letter('p');
        Checks.due("digest()", x.digest(), digestOf(
                0, 0, 0, 1, 1, 0, 0, 0, 1023, 0, 0, 0,
                3, 1, 9, 1, 3, -1, 11, -1, 1023, 4, 0, 0,
                1, 1, 0, 1, 9,
                0, 0, 0, 0, 0, 0, 0, 0, 0, 1, 1, 1, 1, 1, 1, 1, 1, 1, 1, 1,
                1, 0, 1, -1, -1, -1,
                'p',
                2, 2, 2, 2, 0, 0, 1, 1));
    }

    private static void digestChangesNothing() {
        HermitHours x = Checks.of("b32,s31,t53,p02,e00;7");
        x.come(0, 3);
        x.see(3, 1);
        x.image();
        x.come(0, 4);
        long digest = x.digest();
        Checks.due("digest() again", x.digest(), digest);
        Checks.same("comings", Checks.all(x, 2), "4 1 3 2 0");
        Checks.due("changes", x.count(4), 2);
        Checks.due("restore()", x.restore(), 1);
    }

    /** "An object is used for at most 512 calls": up to the last of them all is told as ever. */
    private static void fiveHundredAndTwelveCalls() {
        HermitHours x = new HermitHours();
        Checks.write(x, "p00,p10;9");
        x.cave();
        for (int changes = 1; changes <= 500; changes++) {
            x.patience(changes % 21);
        }
        Checks.due("the 511th call", x.count(4), 500);
        Checks.due("the 512th call", x.count(1), 500 % 21);
    }
}

/** The boundary cases of promises 1 to 5, each with what the document says of it. */
public final class PageEdgesTest {
    private static final String LONGEST = "p00,p00,p00,p00,p00;0";

    public static void main(String[] args) {
        atFirstThereIsNone();
        codesFrom1To126();
        fullAbove24();
        refusedLetterIsNotWritten();
        fullPageIsNotWritten();
        blankOfEmptyAndFull();
        blankLeavesTheCave();
        faultOfEmptyPage();
        faultOfEachLetterAtEachPlace();
        faultOfEachLetterBehindTwo();
        faultIsTheFirst();
        twoToFivePilgrims();
        troublesSlotsAndPatience();
        cavesWithoutAnEnd();
        refusedPageStays();
        refusedPageLeavesTheCave();
        otherCaveIsGone();
        shorterCave();
        Checks.end();
    }

    /** "At first there is none." */
    private static void atFirstThereIsNone() {
        HermitHours x = new HermitHours();
        Checks.same("new count(0) to count(7)", Checks.row(0, 7, x::count), "0 0 0 0 0 0 0 0");
        Checks.due("new day(0)", x.day(0), Checks.STATE);
        Checks.due("new pilgrim(0, 0)", x.pilgrim(0, 0), Checks.UNKNOWN);
        Checks.due("new forget()", x.forget(), 0);
        Checks.due("new blank()", x.blank(), 0);
    }

    /** "OUTSIDE: code (1 to 126)" */
    private static void codesFrom1To126() {
        HermitHours x = new HermitHours();
        Checks.refused("letter()", Checks.OUTSIDE, x::letter, 0, 127, -1, 128, 256 + 'p', -256 + 'p');
        Checks.due("letters after these", x.count(6), 0);
        for (int code = 1; code <= 126; code++) {
            Checks.due("letter(" + code + ")", x.letter(code), 1);
            x.blank();
            if (code % 60 == 0) {
                x = new HermitHours();
            }
        }
    }

    /** "FULL: above 24" */
    private static void fullAbove24() {
        HermitHours x = new HermitHours();
        for (int many = 1; many <= 24; many++) {
            Checks.due("letter " + many, x.letter('p'), many);
        }
        Checks.due("letter 25", x.letter('p'), Checks.FULL);
        Checks.refused("letter 25", Checks.OUTSIDE, x::letter, 0, 127);
        Checks.due("letters", x.count(6), 24);
        x.blank();
        Checks.due("the first letter after blank()", x.letter('p'), 1);
    }

    private static void refusedLetterIsNotWritten() {
        HermitHours x = new HermitHours();
        Checks.write(x, "p0");
        x.letter(0);
        x.letter(127);
        Checks.write(x, "0,p00;0");
        Checks.due("cave() with refused letters inside", x.cave(), 2);
    }

    private static void fullPageIsNotWritten() {
        HermitHours x = new HermitHours();
        Checks.write(x, LONGEST + "abc");
        long digest = x.digest();
        Checks.due("letter on a full page", x.letter('d'), Checks.FULL);
        Checks.due("digest() after it", x.digest(), digest);
        Checks.due("fault() after it", x.fault(), 21);
    }

    /** "how many letters it had" */
    private static void blankOfEmptyAndFull() {
        HermitHours x = new HermitHours();
        Checks.due("blank() of none", x.blank(), 0);
        Checks.write(x, "p");
        Checks.due("blank() of one", x.blank(), 1);
        Checks.write(x, LONGEST + "abcd");
        Checks.due("blank() of a full page", x.blank(), 24);
        Checks.due("blank() again", x.blank(), 0);
        Checks.write(x, LONGEST);
        Checks.due("cave() after blank()", x.cave(), 5);
    }

    private static void blankLeavesTheCave() {
        HermitHours x = Checks.of("p01,t12;3");
        long digest = x.digest();
        Checks.write(x, "p");
        x.blank();
        Checks.due("digest() after blank()", x.digest(), digest);
    }

    private static void faultOfEmptyPage() {
        HermitHours x = new HermitHours();
        Checks.due("fault() of none", x.fault(), 0);
        Checks.write(x, LONGEST);
        x.cave();
        Checks.due("fault() of the page that was read", x.fault(), 0);
    }

    /** "the first letter .. that no CAVE has there", with as many pilgrims as there can be */
    private static void faultOfEachLetterAtEachPlace() {
        String[] inOne = {"ptesb", "012345", "0123456789"};
        for (int place = 0; place < LONGEST.length(); place++) {
            String right = place == 20 ? "0123456789" : place == 19 ? ";" : place == 3 ? ","
                    : place % 4 == 3 ? ",;" : inOne[place % 4];
            faultBehind(LONGEST.substring(0, place), right);
        }
        faultBehind(LONGEST, "");
    }

    private static void faultOfEachLetterBehindTwo() {
        faultBehind("p00,p00;", "0123456789");
        faultBehind("p00,p00;9", "");
        faultBehind("b59,b59,b59;9", "");
        faultBehind("s59,t59,e59,p59;", "0123456789");
    }

    private static void faultBehind(String ahead, String right) {
        HermitHours x = new HermitHours();
        for (int code = 1; code <= 126; code++) {
            Checks.write(x, ahead);
            x.letter(code);
            int want = right.indexOf(code) >= 0 ? ahead.length() + 1 : ahead.length();
            Checks.due("fault() of code " + code + " behind '" + ahead + "'", x.fault(), want);
            x.blank();
            x = code % 16 == 0 ? new HermitHours() : x;
        }
    }

    /** "of the first letter": what is right or wrong behind it is all one. */
    private static void faultIsTheFirst() {
        HermitHours x = new HermitHours();
        Checks.write(x, "p00,x00,p60;;");
        Checks.due("fault() of several", x.fault(), 4);
        Checks.due("fault() again", x.fault(), 4);
        Checks.due("letters after it", x.count(6), 13);
    }

    private static void caveOf(String text, int want) {
        HermitHours x = new HermitHours();
        Checks.write(x, text);
        Checks.due("cave() of '" + text + "'", x.cave(), want);
        Checks.due("pilgrims of '" + text + "'", x.count(0), Math.max(want, 0));
        Checks.due("letters after '" + text + "'", x.count(6), want > 0 ? 0 : text.length());
        Checks.due("readings after '" + text + "'", x.count(7), want > 0 ? 1 : 0);
    }

    /** "two to five PILGRIMS" */
    private static void twoToFivePilgrims() {
        caveOf("", Checks.STATE);
        caveOf(";9", Checks.STATE);
        caveOf("p00;9", Checks.STATE);
        caveOf("p00,p00;9", 2);
        caveOf("p00,p00,p00;9", 3);
        caveOf("p00,p00,p00,p00;9", 4);
        caveOf("p00,p00,p00,p00,p00;9", 5);
        // Six would need a letter more than the page has: this is all of them but the patience.
        caveOf("p00,p00,p00,p00,p00,p00;", Checks.STATE);
    }

    /** "TROUBLE (0 to 5), the SLOT at which he COMES (0 to 9); .. PATIENCE (0 to 9)" */
    private static void troublesSlotsAndPatience() {
        HermitHours x = Checks.of("p09,p50;0");
        Checks.same("troubles", Checks.all(x, 1), "0 5");
        Checks.same("comings", Checks.all(x, 2), "9 0");
        Checks.due("patience 0", x.count(1), 0);
        Checks.due("patience 9", Checks.of("p09,p50;9").count(1), 9);
        caveOf("p60,p00;9", Checks.STATE);
        caveOf("p00,p90;9", Checks.STATE);
        caveOf("p0/,p00;9", Checks.STATE);
        caveOf("p0:,p00;9", Checks.STATE);
        caveOf("p/0,p00;9", Checks.STATE);
        caveOf("p00,p00;10", Checks.STATE);
        caveOf("p00,p00;/", Checks.STATE);
        caveOf("p00,p00;:", Checks.STATE);
    }

    private static void cavesWithoutAnEnd() {
        for (int length = 0; length < LONGEST.length(); length++) {
            caveOf(LONGEST.substring(0, length), Checks.STATE);
        }
        caveOf(LONGEST + "0", Checks.STATE);
        caveOf(LONGEST + ";0", Checks.STATE);
        caveOf("p00,p00;9,", Checks.STATE);
        caveOf("p00,p00,;9", Checks.STATE);
        caveOf("p00;p00;9", Checks.STATE);
    }

    /** "they change nothing": the letter that was missing can still be written. */
    private static void refusedPageStays() {
        HermitHours x = new HermitHours();
        Checks.write(x, "p00,p00;");
        Checks.due("cave() without patience", x.cave(), Checks.STATE);
        Checks.due("cave() without patience, again", x.cave(), Checks.STATE);
        Checks.due("the letter that was missing", x.letter('9'), 9);
        Checks.due("cave() then", x.cave(), 2);
        Checks.due("cave() of the page that was read", x.cave(), Checks.STATE);
        Checks.due("readings", x.count(7), 1);
    }

    private static void refusedPageLeavesTheCave() {
        HermitHours x = Checks.of("p01,t12,e23;7");
        x.come(0, 4);
        x.see(3, 1);
        x.image();
        x.trouble(0, 5);
        long digest = x.digest();
        Checks.due("cave() of an empty page", x.cave(), Checks.STATE);
        Checks.due("digest() after it", x.digest(), digest);
        Checks.due("restore() after it", x.restore(), 1);
    }

    /** "another one is gone, with all that was" */
    private static void otherCaveIsGone() {
        HermitHours x = Checks.of("p01,t12;7");
        x.come(0, 4);
        x.trouble(1, 5);
        x.patience(20);
        x.see(3, 1);
        x.image();
        Checks.write(x, "p01,t12;7");
        Checks.due("cave() of the like text", x.cave(), 2);
        Checks.same("count(0) to count(7)", Checks.row(0, 7, x::count), "2 7 3 2 0 0 0 2");
        Checks.same("comings", Checks.all(x, 2), "1 2");
        Checks.same("troubles", Checks.all(x, 1), "0 1");
        Checks.same("when", Checks.all(x, 8), "1023 1023");
        Checks.due("restore()", x.restore(), Checks.STATE);
    }

    /** What the longer cave had behind the shorter one's end is gone, too; and comes anew with a longer one. */
    private static void shorterCave() {
        HermitHours x = Checks.of("b00,b10,b20,b30,b40;0");
        x.order(10);
        Checks.write(x, "p00,p10;9");
        Checks.due("cave() of a shorter one", x.cave(), 2);
        for (int pilgrim = 2; pilgrim <= 4; pilgrim++) {
            Checks.due("pilgrim(" + pilgrim + ", 0)", x.pilgrim(pilgrim, 0), Checks.UNKNOWN);
            Checks.due("order(1" + pilgrim + ")", x.order(10 + pilgrim), Checks.NONE);
        }
        Checks.same("day(0) to day(4)", Checks.row(0, 4, x::day), "2 2 0 7 -1");
        Checks.same("count(0) to count(7)", Checks.row(0, 7, x::count), "2 9 2 2 0 0 0 2");
        Checks.write(x, "s00,s10,s20;9");
        Checks.due("cave() of a longer one", x.cave(), 3);
        Checks.same("received at", Checks.all(x, 5), "0 1 2");
    }
}

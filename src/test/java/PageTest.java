/** Promises 1 to 5: a new object, letter, blank, fault, cave. */
public final class PageTest {
    public static void main(String[] args) {
        newObject();
        letters();
        blanks();
        faults();
        caves();
        anotherCave();
        Checks.end();
    }

    private static void newObject() {
        HermitHours x = new HermitHours();
        for (int what = 0; what <= 7; what++) {
            Checks.due("new count(" + what + ")", x.count(what), 0);
        }
        Checks.due("new fault()", x.fault(), 0);
        Checks.due("new pilgrim(0, 0)", x.pilgrim(0, 0), Checks.UNKNOWN);
        Checks.due("new as(0, 0)", x.as(0, 0), Checks.UNKNOWN);
        Checks.due("new come(0, 0)", x.come(0, 0), Checks.UNKNOWN);
        Checks.due("new trouble(0, 0)", x.trouble(0, 0), Checks.UNKNOWN);
        Checks.due("new patience(0)", x.patience(0), Checks.STATE);
        Checks.due("new day(0)", x.day(0), Checks.STATE);
        Checks.due("new waiting(0)", x.waiting(0), Checks.STATE);
        Checks.due("new order(0)", x.order(0), Checks.STATE);
        Checks.due("new fit(0, 0)", x.fit(0, 0), Checks.UNKNOWN);
        Checks.due("new seasons(1, 0, 0)", x.seasons(1, 0, 0), Checks.STATE);
        Checks.due("new image()", x.image(), Checks.STATE);
        Checks.due("new restore()", x.restore(), Checks.STATE);
        Checks.due("new cave()", x.cave(), Checks.STATE);
    }

    private static void letters() {
        HermitHours x = new HermitHours();
        Checks.due("letter(0)", x.letter(0), Checks.OUTSIDE);
        Checks.due("letter(127)", x.letter(127), Checks.OUTSIDE);
        Checks.due("letter(-1)", x.letter(-1), Checks.OUTSIDE);
        Checks.due("letter(least)", x.letter(Integer.MIN_VALUE), Checks.OUTSIDE);
        Checks.due("letter(most)", x.letter(Integer.MAX_VALUE), Checks.OUTSIDE);
        Checks.due("letter(1)", x.letter(1), 1);
        Checks.due("letter(126)", x.letter(126), 2);
        for (int had = 2; had < 24; had++) {
            Checks.due("letter behind " + had, x.letter('p'), had + 1);
        }
        Checks.due("the 25th letter", x.letter('p'), Checks.FULL);
        Checks.due("the 25th letter, no letter", x.letter(0), Checks.OUTSIDE);
        Checks.due("letters on a full page", x.count(6), 24);
    }

    private static void blanks() {
        HermitHours x = new HermitHours();
        Checks.due("blank() of nothing", x.blank(), 0);
        Checks.write(x, "p00,");
        Checks.due("blank() of four", x.blank(), 4);
        Checks.due("letters after blank()", x.count(6), 0);
        Checks.due("letter after blank()", x.letter('q'), 1);
        Checks.due("fault() after blank()", x.fault(), 0);
    }

    private static void faultOf(String text, int want) {
        HermitHours x = new HermitHours();
        Checks.write(x, text);
        Checks.due("fault() of " + text, x.fault(), want);
        Checks.due("letters after fault() of " + text, x.count(6), text.length());
    }

    private static void faults() {
        String most = "p00,t19,e20,s35,b59;9";
        for (int length = 0; length <= most.length(); length++) {
            faultOf(most.substring(0, length), length);
        }
        faultOf(most + "9", 21);
        faultOf(most + ";", 21);
        faultOf(most + ",p0", 21);
        faultOf("P00", 0);
        faultOf("0", 0);
        faultOf(";", 0);
        faultOf(",", 0);
        faultOf("a00,p00;0", 0);
        faultOf("pp", 1);
        faultOf("p6", 1);
        faultOf("p/", 1);
        faultOf("p5:", 2);
        faultOf("p5/", 2);
        faultOf("p50p", 3);
        faultOf("p50;", 3);
        faultOf("p50,p00;0", 9);
        faultOf("p50,,", 4);
        faultOf("p50,p00;;", 8);
        faultOf("p50,p00;:", 8);
        faultOf("p50,p00;/", 8);
        faultOf("p50,p00;09", 9);
        faultOf("p50,p00;0;", 9);
        faultOf("p50,p00;0,p00", 9);
        faultOf("p00,p00,p00,p00,p00,", 19);
        faultOf("p00,p00,p00,p00,p00;", 20);
    }

    private static void noCave(String text) {
        HermitHours x = new HermitHours();
        Checks.write(x, text);
        Checks.due("cave() of " + text, x.cave(), Checks.STATE);
        Checks.due("letters after it", x.count(6), text.length());
        Checks.due("readings after it", x.count(7), 0);
        Checks.due("pilgrims after it", x.count(0), 0);
    }

    private static void caves() {
        noCave("");
        noCave("p");
        noCave(";0");
        noCave("p00");
        noCave("p00;0");
        noCave("p00,p00");
        noCave("p00,p00;");
        noCave("p00,p00,");
        noCave("p00,p00,;0");
        noCave("p00,p00;00");
        noCave("p00,p60;0");
        noCave("p00,p00,p00,p00,p00,p00;");
        HermitHours x = new HermitHours();
        Checks.write(x, "p01,t12,e23,s34,b45;7");
        Checks.due("cave() of five", x.cave(), 5);
        Checks.same("kinds", Checks.all(x, 0), "0 1 2 3 4");
        Checks.same("troubles", Checks.all(x, 1), "0 1 2 3 4");
        Checks.same("comings", Checks.all(x, 2), "1 2 3 4 5");
        Checks.due("patience", x.count(1), 7);
        Checks.due("the page then", x.count(6), 0);
        Checks.due("readings", x.count(7), 1);
        Checks.due("cave() of an empty page", x.cave(), Checks.STATE);
        Checks.due("pilgrims still", x.count(0), 5);
    }

    private static void anotherCave() {
        HermitHours x = Checks.of("p01,t12,e23;7");
        x.come(0, 4);
        x.patience(20);
        x.see(3, 1);
        x.image();
        Checks.write(x, "s50,b09;0");
        Checks.due("another cave()", x.cave(), 2);
        Checks.same("kinds of the other", Checks.all(x, 0), "3 4");
        Checks.same("comings of the other", Checks.all(x, 2), "0 9");
        Checks.due("a pilgrim that is gone", x.pilgrim(2, 0), Checks.UNKNOWN);
        Checks.due("patience of the other", x.count(1), 0);
        Checks.due("changes of the other", x.count(4), 0);
        Checks.due("seen of the other", x.count(5), 0);
        Checks.due("readings", x.count(7), 2);
        Checks.due("restore() of the cave that is gone", x.restore(), Checks.STATE);
        Checks.due("image() of the other", x.image(), 0);
        Checks.due("restore() of the other", x.restore(), 0);
    }
}

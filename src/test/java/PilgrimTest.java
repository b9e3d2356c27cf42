/** Promises 6 to 10: pilgrim, as, come, trouble, patience. */
public final class PilgrimTest {
    private static final String FIVE = "p00,t10,s20,e31,b42;9";

    public static void main(String[] args) {
        told();
        notHelped();
        when();
        refused();
        casts();
        comings();
        troubles();
        patience();
        Checks.end();
    }

    private static void told() {
        HermitHours x = Checks.of(FIVE);
        Checks.same("kinds", Checks.all(x, 0), "0 1 3 2 4");
        Checks.same("troubles", Checks.all(x, 1), "0 1 2 3 4");
        Checks.same("comings", Checks.all(x, 2), "0 0 0 1 2");
        Checks.same("stays", Checks.all(x, 3), "1 2 1 1 2");
        Checks.same("wears", Checks.all(x, 4), "1 1 3 1 1");
        Checks.same("received at", Checks.all(x, 5), "0 4 6 1 2");
        Checks.same("slots waited", Checks.all(x, 6), "0 4 6 0 0");
        Checks.same("sayings", Checks.all(x, 7), "0 1 2 3 4");
        Checks.same("when", Checks.all(x, 8), "1023 1023 1023 1023 1023");
    }

    private static void notHelped() {
        Checks.same("sayings for trouble 0", Checks.all(Checks.of("p00,p00,p00;9"), 7), "0 1 -1");
        Checks.same("sayings for trouble 5", Checks.all(Checks.of("p50,p51,p52;9"), 7), "0 5 -1");
        Checks.same("sayings for 5 and 0", Checks.all(Checks.of("p50,p01;9"), 7), "0 1");
        HermitHours x = Checks.of("s03,p19;2");
        Checks.same("received when he is in town", Checks.all(x, 5), "-1 -1");
        Checks.same("waited when he is in town", Checks.all(x, 6), "17 11");
        Checks.same("sayings when he is in town", Checks.all(x, 7), "-1 -1");
    }

    private static void seenOfSecond(HermitHours x, int slot, int many, int when, int look) {
        x.see(slot, many);
        Checks.due("when, " + many + " seen at " + slot, x.pilgrim(1, 8), when);
        Checks.due("look, " + many + " seen at " + slot, x.pilgrim(1, 9), look);
    }

    private static void when() {
        HermitHours x = Checks.of("p00,p05;0");
        Checks.due("when, nothing seen", x.pilgrim(1, 8), 1023);
        Checks.due("look, nothing seen", x.pilgrim(1, 9), 4);
        seenOfSecond(x, 4, 2, 31, 1);
        seenOfSecond(x, 1, 1, 28, 2);
        seenOfSecond(x, 2, 1, 24, 3);
        seenOfSecond(x, 3, 2, 8, 0);
        seenOfSecond(x, 3, 1, 0, Checks.NONE);
        // Nobody is received: at slot 4 and later five may wait, and as many comings are left either way.
        x = Checks.of("p00,p00,p00,p00,p05;0");
        Checks.due("look where five wait", x.pilgrim(4, 9), 4);
        x = Checks.of("p00,p00;9");
        Checks.due("look where one slot tells", x.pilgrim(0, 9), 0);
        x.see(0, 1);
        Checks.due("when two came at 0", x.pilgrim(0, 8), 1);
        x.forget();
        x.see(0, 0);
        Checks.due("when one came later", x.pilgrim(0, 8), 1022);
        Checks.due("look where no slot tells", x.pilgrim(0, 9), 0);
    }

    private static void refused() {
        HermitHours x = Checks.of("p00,t10;3");
        Checks.due("pilgrim(-1, 0)", x.pilgrim(-1, 0), Checks.UNKNOWN);
        Checks.due("pilgrim(2, 0)", x.pilgrim(2, 0), Checks.UNKNOWN);
        Checks.due("pilgrim(2, 10)", x.pilgrim(2, 10), Checks.UNKNOWN);
        Checks.due("pilgrim(least, least)", x.pilgrim(Integer.MIN_VALUE, Integer.MIN_VALUE), Checks.UNKNOWN);
        Checks.due("pilgrim(1, 10)", x.pilgrim(1, 10), Checks.OUTSIDE);
        Checks.due("pilgrim(0, -1)", x.pilgrim(0, -1), Checks.OUTSIDE);
        Checks.due("pilgrim(0, most)", x.pilgrim(0, Integer.MAX_VALUE), Checks.OUTSIDE);
    }

    private static void casts() {
        HermitHours x = Checks.of("p00,t10,e20,s31,b42;9");
        String[] want = {"0 -1 -1 -1 -1", "1 1 -1 -1 -1", "2 -1 2 -1 -1", "3 -1 -1 3 -1", "4 -1 4 -1 4"};
        for (int i = 0; i < 5; i++) {
            int pilgrim = i;
            Checks.same("as() of " + i, Checks.row(0, 4, kind -> x.as(pilgrim, kind)), want[i]);
        }
        Checks.due("as(5, 0)", x.as(5, 0), Checks.UNKNOWN);
        Checks.due("as(-1, 9)", x.as(-1, 9), Checks.UNKNOWN);
        Checks.due("as(0, 5)", x.as(0, 5), Checks.OUTSIDE);
        Checks.due("as(0, -1)", x.as(0, -1), Checks.OUTSIDE);
    }

    private static void comings() {
        HermitHours x = Checks.of("p03,p07;9");
        Checks.due("come(0, 9)", x.come(0, 9), 3);
        Checks.due("come(0, 0)", x.come(0, 0), 9);
        Checks.due("come(1, 7)", x.come(1, 7), 7);
        Checks.same("comings", Checks.all(x, 2), "0 7");
        Checks.same("received at", Checks.all(x, 5), "0 7");
        Checks.due("changes, one to the same slot", x.count(4), 3);
        Checks.due("come(2, 0)", x.come(2, 0), Checks.UNKNOWN);
        Checks.due("come(-1, 10)", x.come(-1, 10), Checks.UNKNOWN);
        Checks.due("come(0, 10)", x.come(0, 10), Checks.OUTSIDE);
        Checks.due("come(0, -1)", x.come(0, -1), Checks.OUTSIDE);
        Checks.due("changes after refusals", x.count(4), 3);
        Checks.same("comings after refusals", Checks.all(x, 2), "0 7");
    }

    private static void troubles() {
        HermitHours x = Checks.of("p30,p30;9");
        Checks.due("trouble(0, 5)", x.trouble(0, 5), 3);
        Checks.due("trouble(0, 0)", x.trouble(0, 0), 5);
        Checks.due("trouble(1, 3)", x.trouble(1, 3), 3);
        Checks.same("troubles", Checks.all(x, 1), "0 3");
        Checks.same("sayings", Checks.all(x, 7), "0 3");
        Checks.due("changes, one to the same trouble", x.count(4), 3);
        Checks.due("trouble(2, 0)", x.trouble(2, 0), Checks.UNKNOWN);
        Checks.due("trouble(-1, 6)", x.trouble(-1, 6), Checks.UNKNOWN);
        Checks.due("trouble(0, 6)", x.trouble(0, 6), Checks.OUTSIDE);
        Checks.due("trouble(0, -1)", x.trouble(0, -1), Checks.OUTSIDE);
        Checks.due("changes after refusals", x.count(4), 3);
        Checks.same("troubles after refusals", Checks.all(x, 1), "0 3");
    }

    private static void patience() {
        HermitHours x = new HermitHours();
        Checks.due("patience(21), no cave", x.patience(21), Checks.OUTSIDE);
        Checks.due("patience(20), no cave", x.patience(20), Checks.STATE);
        x = Checks.of("s30,s30;3");
        Checks.due("received with 3", x.day(0), 1);
        Checks.due("patience(20)", x.patience(20), 3);
        Checks.due("left of 20", x.day(3), 14);
        Checks.due("patience(0)", x.patience(0), 20);
        Checks.due("received with 0", x.day(0), 0);
        Checks.due("patience(0) again", x.patience(0), 0);
        Checks.due("patience(21)", x.patience(21), Checks.OUTSIDE);
        Checks.due("patience(-1)", x.patience(-1), Checks.OUTSIDE);
        Checks.due("changes", x.count(4), 3);
        Checks.due("patience told", x.count(1), 0);
    }
}

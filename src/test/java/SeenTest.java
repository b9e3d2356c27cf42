/** Promises 15 to 17: see, forget, seasons. */
public final class SeenTest {
    public static void main(String[] args) {
        seen();
        withoutCave();
        seasons();
        refusedSeasons();
        Checks.end();
    }

    private static void seen() {
        HermitHours x = Checks.of("p00,p05;0");
        Checks.due("see(-1, 0)", x.see(-1, 0), Checks.OUTSIDE);
        Checks.due("see(20, 0)", x.see(20, 0), Checks.OUTSIDE);
        Checks.due("see(0, -1)", x.see(0, -1), Checks.OUTSIDE);
        Checks.due("see(0, 6)", x.see(0, 6), Checks.OUTSIDE);
        Checks.due("forget() of nothing", x.forget(), 0);
        Checks.due("see(0, 1)", x.see(0, 1), 1);
        Checks.due("when, 1 seen at 0", x.pilgrim(1, 8), 1022);
        Checks.due("see(19, 5)", x.see(19, 5), 2);
        Checks.due("when, 5 seen of 2", x.pilgrim(1, 8), 0);
        for (int had = 2; had < 8; had++) {
            Checks.due("the same seen again", x.see(0, 1), had + 1);
        }
        Checks.due("the 9th seen", x.see(0, 1), Checks.FULL);
        Checks.due("the 9th seen, no slot", x.see(20, 1), Checks.OUTSIDE);
        Checks.due("seen in all", x.count(5), 8);
        Checks.due("changes by seeing", x.count(4), 0);
        Checks.due("forget()", x.forget(), 8);
        Checks.due("seen after it", x.count(5), 0);
        Checks.due("when, after it", x.pilgrim(1, 8), 1023);
        Checks.due("see() after it", x.see(2, 1), 1);
    }

    private static void withoutCave() {
        HermitHours x = new HermitHours();
        Checks.due("see(), no cave", x.see(0, 0), 1);
        Checks.due("forget(), no cave", x.forget(), 1);
        Checks.due("see(), no cave, again", x.see(3, 5), 1);
        Checks.write(x, "p00,p00;9");
        x.cave();
        Checks.due("seen with a new cave", x.count(5), 0);
    }

    /** From seed 0 the draws of 10 are 0 8 8, 7 8 7, .. */
    private static void seasons() {
        HermitHours x = Checks.of("p05,p05,p05;0");
        Checks.due("nobody helped", x.seasons(2, 0, 0), 0);
        Checks.due("meetings of a day", x.seasons(1, 0, 1), 36);
        Checks.due("meetings of two days", x.seasons(2, 0, 1), 73);
        Checks.due("seed after three draws", x.seasons(1, 0, 2), 654583775);
        Checks.due("seed after six draws", x.seasons(2, 0, 2), 1109335178);
        Checks.due("meetings from a seed on", x.seasons(1, 654583775, 1), 37);
        Checks.same("comings after it", Checks.all(x, 2), "5 5 5");
        Checks.due("changes after it", x.count(4), 0);
        x = Checks.of("p00,p00,p30;9");
        Checks.due("helped on 30 days", x.seasons(30, Integer.MAX_VALUE, 0), 90);
        // The patience and the sayings are there anew on each day.
        x.patience(2);
        Checks.due("helped with little patience", x.seasons(30, 7, 0), 60);
        x = Checks.of("p00,p00,p00,p00;9");
        Checks.due("helped of one trouble", x.seasons(30, 7, 0), 60);
        x = Checks.of("p00,p00;9");
        Checks.due("seed after two draws", x.seasons(1, 0, 2), 1406932606);
        Checks.due("seed after four draws", x.seasons(2, 0, 2), 1449466924);
    }

    private static void refusedSeasons() {
        HermitHours x = new HermitHours();
        for (int round = 0; round < 2; round++) {
            Checks.due("seasons(0, 0, 0)", x.seasons(0, 0, 0), Checks.OUTSIDE);
            Checks.due("seasons(31, 0, 0)", x.seasons(31, 0, 0), Checks.OUTSIDE);
            Checks.due("seasons(1, -1, 0)", x.seasons(1, -1, 0), Checks.OUTSIDE);
            Checks.due("seasons(1, least, 0)", x.seasons(1, Integer.MIN_VALUE, 0), Checks.OUTSIDE);
            Checks.due("seasons(1, 0, 3)", x.seasons(1, 0, 3), Checks.OUTSIDE);
            Checks.due("seasons(1, 0, -1)", x.seasons(1, 0, -1), Checks.OUTSIDE);
            x = Checks.of("p00,p00;9");
        }
        x = new HermitHours();
        Checks.due("seasons(30, most, 2), no cave", x.seasons(30, Integer.MAX_VALUE, 2), Checks.STATE);
    }
}

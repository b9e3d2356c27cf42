/** Promises 11 and 12: day, waiting. */
public final class DayTest {
    public static void main(String[] args) {
        dayOf("p00,t10,s20,e31,b42;9", "5 5 4 2 -1", "2 2 2 2 1 1 0 0 0 0 0 0 0 0 0 0 0 0 0 0");
        // The first in line is too much for him: the other is not received either.
        dayOf("s00,p10;2", "0 0 20 2 0", "2 2 2 2 2 2 2 2 2 2 2 2 2 2 2 2 2 2 2 2");
        // Just enough patience, and then none for a peer.
        dayOf("e01,s00;3", "1 1 0 0 1", "0 1 1 1 1 1 1 1 1 1 1 1 1 1 1 1 1 1 1 1");
        // A peer who comes later goes ahead of one who came sooner.
        dayOf("p00,p00,b01;9", "3 2 0 6 -1", "1 1 1 0 0 0 0 0 0 0 0 0 0 0 0 0 0 0 0 0");
        // The one who came sooner is received sooner, whatever his number.
        dayOf("p02,p01,t00;9", "3 2 0 6 -1", "0 1 1 0 0 0 0 0 0 0 0 0 0 0 0 0 0 0 0 0");
        // Patience of 0 wears on nobody as long as nobody comes.
        dayOf("p09,p08;0", "0 0 11 0 8", "0 0 0 0 0 0 0 0 1 2 2 2 2 2 2 2 2 2 2 2");
        // The longest day: five that stay two slots each, all from slot 9 on.
        dayOf("b09,b09,b09,b09,b09;9", "5 2 20 4 -1", "0 0 0 0 0 0 0 0 0 4 4 3 3 2 2 1 1 0 0 0");
        peersInTurn();
        askedFirst();
        nothingChanges();
        refused();
        Checks.end();
    }

    private static void dayOf(String cave, String day, String waiting) {
        HermitHours x = Checks.of(cave);
        Checks.same("the day of " + cave, Checks.row(0, 4, x::day), day);
        Checks.same("those waiting of " + cave, Checks.row(0, 19, x::waiting), waiting);
    }

    private static void peersInTurn() {
        Checks.same("peers in turn", Checks.all(Checks.of("t00,e02,b01,e01,p00;9"), 5), "0 5 2 4 6");
    }

    /** No other call has worked the day out before, and then it has changed since. */
    private static void askedFirst() {
        HermitHours x = Checks.of("p00,p00,p00;9");
        Checks.due("waiting(0), asked first", x.waiting(0), 2);
        x.come(2, 5);
        Checks.due("waiting(0) after a change", x.waiting(0), 1);
        x.patience(0);
        Checks.due("day(4) after a change", x.day(4), 0);
        x.patience(1);
        Checks.due("waiting(19) after a change", x.waiting(19), 2);
    }

    private static void nothingChanges() {
        HermitHours x = Checks.of("s00,p10,p20;4");
        Checks.due("left", x.day(3), 0);
        Checks.due("left, asked again", x.day(3), 0);
        Checks.due("patience after a day", x.count(1), 4);
        Checks.due("changes after a day", x.count(4), 0);
    }

    private static void refused() {
        HermitHours x = new HermitHours();
        for (int round = 0; round < 2; round++) {
            Checks.due("day(-1)", x.day(-1), Checks.OUTSIDE);
            Checks.due("day(5)", x.day(5), Checks.OUTSIDE);
            Checks.due("day(least)", x.day(Integer.MIN_VALUE), Checks.OUTSIDE);
            Checks.due("waiting(-1)", x.waiting(-1), Checks.OUTSIDE);
            Checks.due("waiting(20)", x.waiting(20), Checks.OUTSIDE);
            Checks.due("waiting(most)", x.waiting(Integer.MAX_VALUE), Checks.OUTSIDE);
            x = Checks.of("p00,p00;9");
        }
        x = new HermitHours();
        Checks.due("day(4), no cave", x.day(4), Checks.STATE);
        Checks.due("waiting(19), no cave", x.waiting(19), Checks.STATE);
    }
}

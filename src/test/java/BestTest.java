/** Promises 13 and 14: order, fit. */
public final class BestTest {
    public static void main(String[] args) {
        orders();
        fits();
        refused();
        Checks.end();
    }

    private static void orderOf(String cave, String want) {
        HermitHours x = Checks.of(cave);
        Checks.same("the order of " + cave, x.order(0) + " " + Checks.row(10, 14, x::order), want);
        Checks.due("changes after order()", x.count(4), 0);
    }

    private static void orders() {
        // Whenever they come, and peers have no way ahead here.
        orderOf("p09,e18,b20;9", "3 0 1 2 -1 -1");
        // The sinner would send him to town at once.
        orderOf("s00,p10,p20;2", "2 1 2 0 -1 -1");
        // As many are helped either way: the first by numbers.
        orderOf("s00,p10,p20;4", "2 0 1 2 -1 -1");
        // The one of trouble 5 would use up the saying 0.
        orderOf("p50,p00,p00;9", "3 1 0 2 -1 -1");
        // Three are helped only if both sinners are last.
        orderOf("s00,s10,p20,p30,p40;3", "3 2 3 4 0 1");
        // Nobody can be helped, yet there is an order.
        orderOf("p00,p00,p00,p00;0", "0 0 1 2 3 -1");
        // Just enough patience for all.
        orderOf("s00,s20,s40;9", "3 0 1 2 -1 -1");
    }

    private static void fitOf(HermitHours x, int pilgrim, int slot, int meetings) {
        Checks.due("fit(" + pilgrim + ", 0)", x.fit(pilgrim, 0), slot);
        Checks.due("fit(" + pilgrim + ", 1)", x.fit(pilgrim, 1), meetings);
    }

    private static void fits() {
        HermitHours x = Checks.of("p00,p05;0");
        fitOf(x, 0, 9, 11);
        fitOf(x, 1, 9, 11);
        Checks.same("comings after fit()", Checks.all(x, 2), "0 5");
        Checks.due("changes after fit()", x.count(4), 0);
        // Two who come at once wait one at a time.
        x = Checks.of("p03,p03;9");
        fitOf(x, 0, 0, 0);
        fitOf(x, 1, 0, 0);
        // Three at slot 0 meet once; from slot 1 on the third waits alone, or not at all.
        x = Checks.of("p00,p00,p00;9");
        fitOf(x, 2, 1, 0);
        // Whether he himself is the one who waits or the others are, all meetings count.
        x = Checks.of("t00,t00,t00,p09;9");
        fitOf(x, 3, 4, 2);
    }

    private static void refused() {
        HermitHours x = new HermitHours();
        Checks.due("order(9), no cave", x.order(9), Checks.OUTSIDE);
        Checks.due("order(10), no cave", x.order(10), Checks.STATE);
        Checks.due("fit(0, 2), no cave", x.fit(0, 2), Checks.UNKNOWN);
        x = Checks.of("p00,p00;9");
        int[] wrong = {-1, 1, 9, 15, Integer.MIN_VALUE, Integer.MAX_VALUE};
        for (int what : wrong) {
            Checks.due("order(" + what + ")", x.order(what), Checks.OUTSIDE);
        }
        Checks.due("fit(2, 2)", x.fit(2, 2), Checks.UNKNOWN);
        Checks.due("fit(-1, 0)", x.fit(-1, 0), Checks.UNKNOWN);
        Checks.due("fit(1, 2)", x.fit(1, 2), Checks.OUTSIDE);
        Checks.due("fit(0, -1)", x.fit(0, -1), Checks.OUTSIDE);
    }
}

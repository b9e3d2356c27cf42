/** The boundary cases of promises 13 and 14, each with what the document says of it. */
public final class BestEdgesTest {
    public static void main(String[] args) {
        whatOfAnOrder();
        orderWithoutCave();
        soManiethThereIsNot();
        orderWithoutPatience();
        orderWithJustEnough();
        townByTheFirst();
        firstByNumbers();
        wheneverTheyCome();
        sayingsWrapAround();
        sayingsRunOut();
        whatOfAFit();
        fitOfNobody();
        fitAtTheFirstSlot();
        fitAtTheLastSlot();
        fitOfLikeOnes();
        fitWithMostMeetings();
        fitLeavesAllAsItIs();
        Checks.end();
    }

    private static void orderOf(String cave, String want) {
        HermitHours x = Checks.of(cave);
        String order = x.order(0) + " " + Checks.row(10, 14, x::order);
        Checks.same("the order of " + cave, order, want);
    }

    /** "what = 0 how many, 10 to 14 the so-manieth" */
    private static void whatOfAnOrder() {
        HermitHours x = Checks.of("p00,p10,p20,p30,p40;9");
        Checks.refused("order()", Checks.OUTSIDE, x::order, -1, 1, 2, 5, 8, 9, 15, 16);
        Checks.same("order(10) to order(14)", Checks.row(10, 14, x::order), "0 1 2 3 4");
        Checks.due("order(0)", x.order(0), 5);
    }

    private static void orderWithoutCave() {
        HermitHours x = new HermitHours();
        Checks.refused("order(), no cave", Checks.OUTSIDE, x::order, -1, 1, 9, 15);
        Checks.due("order(0), no cave", x.order(0), Checks.STATE);
        Checks.due("order(10), no cave", x.order(10), Checks.STATE);
        Checks.due("order(14), no cave", x.order(14), Checks.STATE);
    }

    /** "NONE: there is none" */
    private static void soManiethThereIsNot() {
        orderOf("p00,p10;9", "2 0 1 -1 -1 -1");
        orderOf("p00,p10,p20;9", "3 0 1 2 -1 -1");
        orderOf("p00,p10,p20,p30;9", "4 0 1 2 3 -1");
        orderOf("p00,p10,p20,p30,p40;9", "5 0 1 2 3 4");
    }

    private static void orderWithoutPatience() {
        orderOf("s00,p10;0", "0 0 1 -1 -1 -1");
        orderOf("s50,s40,s30,s20,s10;2", "0 0 1 2 3 4");
    }

    /** As much patience as is worn is enough, one less is not. */
    private static void orderWithJustEnough() {
        orderOf("s00,s20;6", "2 0 1 -1 -1 -1");
        orderOf("s00,s20;5", "1 0 1 -1 -1 -1");
        orderOf("s00,p20;4", "2 0 1 -1 -1 -1");
        orderOf("s00,p20;3", "1 0 1 -1 -1 -1");
        orderOf("s00,p20;2", "1 1 0 -1 -1 -1");
        orderOf("s00,p20;1", "1 1 0 -1 -1 -1");
    }

    /** "by the first one for whom there is not enough he goes to town": he does not pass over him. */
    private static void townByTheFirst() {
        orderOf("s50,s40,s50,s20,e30;1", "1 4 0 1 2 3");
        orderOf("s00,s10,p20,p30,p40;3", "3 2 3 4 0 1");
        orderOf("p00,s10,p20;2", "2 0 2 1 -1 -1");
    }

    /** "of like ones the first by numbers" */
    private static void firstByNumbers() {
        orderOf("p00,p00,p00;9", "2 0 1 2 -1 -1");
        orderOf("p00,s20,p40;4", "2 0 1 2 -1 -1");
        orderOf("s00,p20,p20,p20;2", "2 1 2 0 3 -1");
    }

    /** "whenever they come", and peers are not ahead here */
    private static void wheneverTheyCome() {
        HermitHours x = Checks.of("p09,b00,e05;9");
        Checks.same("order", Checks.row(10, 12, x::order), "0 1 2");
        x.come(0, 0);
        x.come(1, 9);
        Checks.same("order with other comings", Checks.row(10, 12, x::order), "0 1 2");
    }

    /** "SAYING 0 that of 5": who has trouble 5 would take the saying of trouble 0. */
    private static void sayingsWrapAround() {
        orderOf("p50,p00,p00;9", "3 1 0 2 -1 -1");
        orderOf("p50,p00;9", "2 0 1 -1 -1 -1");
        orderOf("p50,p50,p40;9", "3 0 1 2 -1 -1");
        orderOf("p50,p40,p40;9", "3 0 1 2 -1 -1");
    }

    /** Two sayings to a trouble: more cannot be helped. */
    private static void sayingsRunOut() {
        orderOf("p30,p30,p30,p30,p30;9", "2 0 1 2 3 4");
        orderOf("p50,p50,p50,p00,p00;9", "3 0 1 2 3 4");
    }

    /** "UNKNOWN; OUTSIDE", of several the first */
    private static void whatOfAFit() {
        HermitHours x = Checks.of("p00,p00;9");
        Checks.refused("fit(0, ..)", Checks.OUTSIDE, what -> x.fit(0, what), -1, 2);
        Checks.refused("fit(.., 0)", Checks.UNKNOWN, pilgrim -> x.fit(pilgrim, 0), -1, 2, 5);
        Checks.refused("fit(.., 2)", Checks.UNKNOWN, pilgrim -> x.fit(pilgrim, 2), -1, 2, 5);
    }

    private static void fitOfNobody() {
        HermitHours x = new HermitHours();
        Checks.refused("fit(.., 0), no cave", Checks.UNKNOWN, pilgrim -> x.fit(pilgrim, 0), -1, 0, 1);
        Checks.due("fit(0, 2), no cave", x.fit(0, 2), Checks.UNKNOWN);
    }

    private static void fitOf(String cave, int pilgrim, String want) {
        HermitHours x = Checks.of(cave);
        Checks.same("fit of " + pilgrim + " in " + cave, Checks.row(0, 1, what -> x.fit(pilgrim, what)), want);
    }

    private static void fitAtTheFirstSlot() {
        fitOf("p03,p05;9", 1, "0 0");
        // With the sinner ahead of both there is patience for one more: the other waits alone.
        fitOf("s05,p01,p01;4", 0, "0 0");
        // Two meet at slot 1 whatever he does; at 4 he comes as the last of them is received.
        fitOf("p05,t00,t00,t01;9", 0, "4 1");
    }

    /** At slot 9 the peer is ahead of the sinner; sooner the sinner sends him to town, and both wait. */
    private static void fitAtTheLastSlot() {
        fitOf("s01,e19;1", 0, "9 0");
        fitOf("p00,p05;0", 1, "9 11");
    }

    /** "of like ones the least" */
    private static void fitOfLikeOnes() {
        fitOf("e01,s13;2", 1, "1 0");
        fitOf("p00,p09;9", 1, "0 0");
        fitOf("p09,p09;9", 0, "0 0");
    }

    /** Four meet in six pairs at twenty slots, and each of them meets the fifth at eleven. */
    private static void fitWithMostMeetings() {
        for (int pilgrim = 0; pilgrim < 5; pilgrim++) {
            fitOf("p00,p00,p00,p00,p00;0", pilgrim, "9 164");
        }
    }

    private static void fitLeavesAllAsItIs() {
        HermitHours x = Checks.of("p00,p05;0");
        long digest = x.digest();
        x.fit(0, 0);
        x.fit(1, 1);
        Checks.due("digest() after fit()", x.digest(), digest);
        Checks.same("comings after fit()", Checks.all(x, 2), "0 5");
    }
}

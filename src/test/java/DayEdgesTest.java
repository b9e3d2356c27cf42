/** The boundary cases of promises 11 and 12, and of the terms of a day, each with what the document says of it. */
public final class DayEdgesTest {
    public static void main(String[] args) {
        whatOfADay();
        slotsFrom0To19();
        withoutCave();
        comeByThen();
        peersAhead();
        soonerThenLeastNumber();
        nobodyWithHim();
        justEnoughPatience();
        lessThanWouldWear();
        nobodyAnyMore();
        patienceOutButNoTown();
        townAtTheLastSlot();
        receivedIsNotWaiting();
        toTheLastSlot();
        onceAtEachSlot();
        dayIsAsItWouldBe();
        Checks.end();
    }

    private static String dayOf(String cave) {
        return Checks.row(0, 4, Checks.of(cave)::day);
    }

    private static String waitingOf(String cave) {
        return Checks.row(0, 19, Checks.of(cave)::waiting);
    }

    private static String receivedOf(String cave) {
        return Checks.all(Checks.of(cave), 5);
    }

    private static void whatOfADay() {
        HermitHours x = Checks.of("p00,p00;9");
        Checks.refused("day()", Checks.OUTSIDE, x::day, -1, 5);
        Checks.same("day(0) to day(4)", Checks.row(0, 4, x::day), "2 2 0 7 -1");
    }

    /** "A DAY has SLOTS 0 to 19." */
    private static void slotsFrom0To19() {
        HermitHours x = Checks.of("p00,p00;0");
        Checks.refused("waiting()", Checks.OUTSIDE, x::waiting, -1, 20);
        Checks.due("waiting(0)", x.waiting(0), 2);
        Checks.due("waiting(19)", x.waiting(19), 2);
    }

    /** "OUTSIDE; STATE: no CAVE", of several the first */
    private static void withoutCave() {
        HermitHours x = new HermitHours();
        Checks.refused("day(), no cave", Checks.OUTSIDE, x::day, -1, 5);
        Checks.refused("waiting(), no cave", Checks.OUTSIDE, x::waiting, -1, 20);
        Checks.same("day(), no cave", Checks.row(0, 4, x::day), "-103 -103 -103 -103 -103");
        Checks.due("waiting(0), no cave", x.waiting(0), Checks.STATE);
        Checks.due("waiting(19), no cave", x.waiting(19), Checks.STATE);
    }

    /** "those that have come by then": at the slot itself, too, the first and the last one */
    private static void comeByThen() {
        Checks.same("come at 0 and 9", receivedOf("p00,p09;9"), "0 9");
        Checks.same("come one behind the other", receivedOf("p01,p00;9"), "1 0");
    }

    /** "PEERS ahead of others", but not of him who is with the hermit, nor ahead of their own coming */
    private static void peersAhead() {
        Checks.same("a peer at once with others", receivedOf("p00,s00,e00;9"), "1 2 0");
        Checks.same("a bishop at once with others", receivedOf("p00,s00,b00;9"), "2 3 0");
        Checks.same("a peer who came later", receivedOf("t00,p01,e02;9"), "0 3 2");
        Checks.same("a peer while one stays", receivedOf("t00,e01;9"), "0 2");
        Checks.same("a peer one slot too late", receivedOf("p00,p00,e02;9"), "0 1 2");
    }

    /** "then those that came sooner, then those of the least number" */
    private static void soonerThenLeastNumber() {
        Checks.same("all alike", receivedOf("p03,p03,p03,p03,p03;9"), "3 4 5 6 7");
        Checks.same("peer and bishop alike", receivedOf("e00,b00;9"), "0 1");
        Checks.same("bishop and peer alike", receivedOf("b00,e00;9"), "0 2");
        Checks.same("the peer of the two that came sooner", receivedOf("t00,e02,b01;9"), "0 4 2");
        Checks.same("the one of the two that came sooner", receivedOf("t00,p02,s01;9"), "0 3 2");
    }

    /** "At each SLOT at which the hermit has nobody with him": from the slot on at which a stay is over */
    private static void nobodyWithHim() {
        Checks.same("behind one slot", receivedOf("p00,p00;9"), "0 1");
        Checks.same("behind two slots", receivedOf("t00,p00;9"), "0 2");
        Checks.same("as the stay ends", receivedOf("b00,p02;9"), "0 2");
        Checks.same("one slot sooner", receivedOf("b00,p01;9"), "0 2");
        Checks.same("one slot later", receivedOf("b00,p03;9"), "0 3");
    }

    /** As much patience as is worn is enough. */
    private static void justEnoughPatience() {
        Checks.same("3 for a sinner", dayOf("s00,p19;3"), "1 1 0 0 9");
        Checks.same("1 for another", dayOf("b00,p19;1"), "1 1 0 0 9");
        Checks.same("6 for two sinners", dayOf("s00,s10;6"), "2 2 0 0 -1");
    }

    /** "If there is less of it than that would WEAR, he goes to town" */
    private static void lessThanWouldWear() {
        Checks.same("2 for a sinner", dayOf("s00,p19;2"), "0 0 11 2 0");
        Checks.same("1 for a sinner", dayOf("s05,p19;1"), "0 0 11 1 5");
        Checks.same("0 for another", dayOf("p00,p19;0"), "0 0 11 0 0");
        Checks.same("5 for two sinners", dayOf("s00,s10;5"), "1 1 0 2 1");
        Checks.same("2 left as a stay ends", dayOf("t00,s00;3"), "1 1 0 2 2");
    }

    /** "nobody is RECEIVED any more on this DAY": nor one for whom there would be enough, nor a peer */
    private static void nobodyAnyMore() {
        Checks.same("another behind the sinner", dayOf("s00,p10;2"), "0 0 20 2 0");
        Checks.same("another between", dayOf("p00,s10,p20;3"), "1 1 20 2 1");
        Checks.same("a peer who comes later", dayOf("s00,e01;2"), "0 0 19 2 0");
        Checks.same("a peer who comes at once is ahead", dayOf("s00,e00;2"), "1 1 0 1 1");
    }

    /** "NONE: he does not": without patience he stays as long as nobody else is to be received. */
    private static void patienceOutButNoTown() {
        Checks.same("all received, nothing left", dayOf("p00,p10;2"), "2 2 0 0 -1");
        Checks.same("nothing left until the last one comes", dayOf("p00,p19;1"), "1 1 0 0 9");
        Checks.same("one left", dayOf("p00,p10;3"), "2 2 0 1 -1");
    }

    /** No day goes on longer than that of four who stay twice from slot 9 on. */
    private static void townAtTheLastSlot() {
        Checks.same("2 left for a sinner", dayOf("b09,b09,b09,b09,s09;6"), "4 2 20 2 17");
        Checks.same("3 left for a sinner", dayOf("b09,b09,b09,b09,s09;7"), "5 2 20 0 -1");
    }

    /** "those WAIT that have come by then, and are not RECEIVED at it, or ahead of it" */
    private static void receivedIsNotWaiting() {
        Checks.same("received as they come", waitingOf("p00,p09;9"), "0 0 0 0 0 0 0 0 0 0 0 0 0 0 0 0 0 0 0 0");
        Checks.same("one waits a slot", waitingOf("p09,p09;9"), "0 0 0 0 0 0 0 0 0 1 0 0 0 0 0 0 0 0 0 0");
        Checks.same("one waits two", waitingOf("t00,p00;9"), "1 1 0 0 0 0 0 0 0 0 0 0 0 0 0 0 0 0 0 0");
    }

    /** "Who is never RECEIVED WAITS to the last SLOT." */
    private static void toTheLastSlot() {
        Checks.same("come at 0 and 9", waitingOf("p00,p09;0"), "1 1 1 1 1 1 1 1 1 2 2 2 2 2 2 2 2 2 2 2");
        Checks.same("all five", waitingOf("p00,t00,e00,s00,b00;0"), "5 5 5 5 5 5 5 5 5 5 5 5 5 5 5 5 5 5 5 5");
    }

    /** "Two who WAIT at the same SLOT MEET (once at each SLOT)." */
    private static void onceAtEachSlot() {
        Checks.due("one who waits alone", Checks.of("p00,p00;9").day(2), 0);
        Checks.due("two all day", Checks.of("p00,p00;0").day(2), 20);
        Checks.due("three all day", Checks.of("p00,p00,p00;0").day(2), 60);
        Checks.due("five all day", Checks.of("p00,p00,p00,p00,p00;0").day(2), 200);
        Checks.due("three at 0, of whom one is received", Checks.of("p00,p00,p00;9").day(2), 1);
        Checks.due("one behind the other", Checks.of("t00,p00,t05,p05;9").day(2), 0);
    }

    /** "The DAY as it would be": asking does not let it pass. */
    private static void dayIsAsItWouldBe() {
        HermitHours x = Checks.of("s00,p10,p20;4");
        String day = Checks.row(0, 4, x::day);
        Checks.same("the day", day, "2 2 1 0 2");
        Checks.same("the day again", Checks.row(0, 4, x::day), day);
        Checks.due("patience", x.count(1), 4);
        Checks.due("changes", x.count(4), 0);
    }
}

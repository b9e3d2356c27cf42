/** The boundary cases of promises 6 to 10, each with what the document says of it. */
public final class PilgrimEdgesTest {
    public static void main(String[] args) {
        numbersOfPilgrims();
        whatOfAPilgrim();
        staysAndWears();
        receivedFirstAndLast();
        neverReceived();
        sayingsOfEachTrouble();
        sayingsSharedByNeighbours();
        noneSaidIsNoneUsedUp();
        whenAtTheEnds();
        whenOfTooMany();
        lookWhereNoneIsLeft();
        lookWhereOneIsLeft();
        lookAtTheLastSlotOfUse();
        casts();
        comesFrom0To9();
        troublesFrom0To5();
        patienceFrom0To20();
        withoutCave();
        Checks.end();
    }

    /** "UNKNOWN (a number names nothing)", of several the first */
    private static void numbersOfPilgrims() {
        for (String cave : new String[] {"p00,t10;3", "p00,t10,e20,s30,b40;3"}) {
            HermitHours x = Checks.of(cave);
            int many = x.count(0);
            Checks.refused("pilgrim(.., 0)", Checks.UNKNOWN, pilgrim -> x.pilgrim(pilgrim, 0), -1, many);
            Checks.refused("pilgrim(.., 10)", Checks.UNKNOWN, pilgrim -> x.pilgrim(pilgrim, 10), -1, many);
            Checks.refused("as(.., 0)", Checks.UNKNOWN, pilgrim -> x.as(pilgrim, 0), -1, many);
            Checks.refused("as(.., 5)", Checks.UNKNOWN, pilgrim -> x.as(pilgrim, 5), -1, many);
            Checks.refused("come(.., 0)", Checks.UNKNOWN, pilgrim -> x.come(pilgrim, 0), -1, many);
            Checks.refused("come(.., 10)", Checks.UNKNOWN, pilgrim -> x.come(pilgrim, 10), -1, many);
            Checks.refused("trouble(.., 0)", Checks.UNKNOWN, pilgrim -> x.trouble(pilgrim, 0), -1, many);
            Checks.refused("trouble(.., 6)", Checks.UNKNOWN, pilgrim -> x.trouble(pilgrim, 6), -1, many);
            Checks.due("the first", x.as(0, 0), 0);
            Checks.due("the last", x.as(many - 1, 0), many - 1);
            Checks.due("changes", x.count(4), 0);
        }
    }

    private static void whatOfAPilgrim() {
        HermitHours x = Checks.of("b32,s31;7");
        Checks.refused("pilgrim(0, ..)", Checks.OUTSIDE, what -> x.pilgrim(0, what), -1, 10);
        Checks.refused("pilgrim(1, ..)", Checks.OUTSIDE, what -> x.pilgrim(1, what), -1, 10);
        Checks.same("all of the first", Checks.row(0, 9, what -> x.pilgrim(0, what)), "4 3 2 2 1 2 0 4 1023 1");
    }

    /** "a TALKER, a BISHOP 2, others 1; .. a SINNER by 3, others by 1" */
    private static void staysAndWears() {
        HermitHours x = Checks.of("p00,t00,e00,s00,b00;9");
        Checks.same("kinds", Checks.all(x, 0), "0 1 2 3 4");
        Checks.same("stays", Checks.all(x, 3), "1 2 1 1 2");
        Checks.same("wears", Checks.all(x, 4), "1 1 1 3 1");
    }

    /** A day's first and last slot at which one can be received. */
    private static void receivedFirstAndLast() {
        HermitHours x = Checks.of("b09,b09,b09,b09,p09;9");
        Checks.same("received from slot 9 on", Checks.all(x, 5), "9 11 13 15 17");
        Checks.same("slots waited", Checks.all(x, 6), "0 2 4 6 8");
        x = Checks.of("p00,p09;9");
        Checks.same("received as they come", Checks.all(x, 5), "0 9");
        Checks.same("nobody waits", Checks.all(x, 6), "0 0");
    }

    /** "Who is never RECEIVED WAITS to the last SLOT." */
    private static void neverReceived() {
        HermitHours x = Checks.of("p00,b09,s05;0");
        Checks.same("received at", Checks.all(x, 5), "-1 -1 -1");
        Checks.same("slots waited", Checks.all(x, 6), "20 11 15");
        Checks.same("sayings", Checks.all(x, 7), "-1 -1 -1");
    }

    /** "a SAYING HELPS a TROUBLE of the same number, and the one of 1 less (SAYING 0 that of 5)" */
    private static void sayingsOfEachTrouble() {
        String[] want = {"0 1 -1", "1 2 -1", "2 3 -1", "3 4 -1", "4 5 -1", "0 5 -1"};
        for (int trouble = 0; trouble <= 5; trouble++) {
            HermitHours x = Checks.of("p00,p00,p00;9");
            for (int pilgrim = 0; pilgrim < 3; pilgrim++) {
                x.trouble(pilgrim, trouble);
            }
            Checks.same("sayings of trouble " + trouble, Checks.all(x, 7), want[trouble]);
            Checks.due("helped of trouble " + trouble, x.day(1), 2);
        }
    }

    /** "the least SAYING that HELPS him and was not said on this DAY" */
    private static void sayingsSharedByNeighbours() {
        Checks.same("4 4 5", Checks.all(Checks.of("p40,p41,p52;9"), 7), "4 5 0");
        Checks.same("4 4 5 5", Checks.all(Checks.of("p40,p41,p52,p53;9"), 7), "4 5 0 -1");
        Checks.same("5 0 0", Checks.all(Checks.of("p50,p01,p02;9"), 7), "0 1 -1");
        Checks.same("0 5 5", Checks.all(Checks.of("p00,p51,p52;9"), 7), "0 5 -1");
        Checks.same("5 5 4 4", Checks.all(Checks.of("p50,p51,p42,p43;9"), 7), "0 5 4 -1");
    }

    /** "none, if there is none": he is received all the same, and nothing more is said. */
    private static void noneSaidIsNoneUsedUp() {
        HermitHours x = Checks.of("p00,p01,p02,p13;9");
        Checks.same("sayings", Checks.all(x, 7), "0 1 -1 2");
        Checks.same("received at", Checks.all(x, 5), "0 1 2 3");
        Checks.same("received, helped", Checks.row(0, 1, x::day), "4 3");
        Checks.due("patience left", x.day(3), 5);
    }

    /** With no patience the second waits from his coming on: the first and the last bit alone. */
    private static void whenAtTheEnds() {
        HermitHours x = Checks.of("p00,p05;0");
        Checks.due("when, nothing seen", x.pilgrim(1, 8), 1023);
        x.see(0, 2);
        Checks.due("when, both seen at 0", x.pilgrim(1, 8), 1);
        x.forget();
        x.see(8, 1);
        Checks.due("when, one seen at 8", x.pilgrim(1, 8), 512);
        x.forget();
        x.see(9, 2);
        Checks.due("when, both seen at 9", x.pilgrim(1, 8), 1023);
        x.see(19, 2);
        Checks.due("when, both seen at 19", x.pilgrim(1, 8), 1023);
        Checks.due("he comes as he did", x.pilgrim(1, 2), 5);
    }

    /** More seen than there are: it can never have been so. */
    private static void whenOfTooMany() {
        HermitHours x = Checks.of("p00,p05;0");
        x.see(0, 5);
        Checks.same("when", Checks.all(x, 8), "0 0");
        Checks.same("look", Checks.all(x, 9), "-1 -1");
        x = Checks.of("p00,p00,p00,p00,p00;0");
        x.see(0, 5);
        Checks.same("when all five wait at 0", Checks.all(x, 8), "1 1 1 1 1");
    }

    /** "none, if there are none" */
    private static void lookWhereNoneIsLeft() {
        HermitHours x = Checks.of("p00,p05;0");
        x.see(3, 1);
        x.see(3, 2);
        Checks.due("when, two unlike seen at one slot", x.pilgrim(1, 8), 0);
        Checks.due("look", x.pilgrim(1, 9), Checks.NONE);
        x.forget();
        Checks.due("look, all forgotten", x.pilgrim(1, 9), 4);
    }

    /** "of like ones the least": with one left all slots are alike. */
    private static void lookWhereOneIsLeft() {
        HermitHours x = Checks.of("p00,p05;0");
        x.see(8, 1);
        Checks.due("when", x.pilgrim(1, 8), 512);
        Checks.due("look", x.pilgrim(1, 9), 0);
    }

    /**
     * Coming ahead of 9 the sinner leaves no patience, and both talkers wait from 9 on; coming at 9 he is the last
     * of three, which only shows at 11, when the second talker is received.
     */
    private static void lookAtTheLastSlotOfUse() {
        HermitHours x = Checks.of("t09,t19,s23;3");
        Checks.due("look", x.pilgrim(2, 9), 11);
        x.see(11, 1);
        Checks.due("when, one seen at 11", x.pilgrim(2, 8), 512);
        x.forget();
        x.see(11, 2);
        Checks.due("when, two seen at 11", x.pilgrim(2, 8), 511);
        Checks.due("look where no slot parts them", x.pilgrim(2, 9), 0);
    }

    /** "a BISHOP is a PEER, too": a peer is no bishop; and there are no kinds but 0 to 4. */
    private static void casts() {
        HermitHours x = Checks.of("e00,b00;9");
        Checks.same("a peer as each kind", Checks.row(0, 4, kind -> x.as(0, kind)), "0 -1 0 -1 -1");
        Checks.same("a bishop as each kind", Checks.row(0, 4, kind -> x.as(1, kind)), "1 -1 1 -1 1");
        Checks.refused("as(0, ..)", Checks.OUTSIDE, kind -> x.as(0, kind), -1, 5);
        Checks.refused("as(1, ..)", Checks.OUTSIDE, kind -> x.as(1, kind), -1, 5);
    }

    /** "OUTSIDE: slot (0 to 9)" */
    private static void comesFrom0To9() {
        HermitHours x = Checks.of("p05,p09;9");
        Checks.due("come(0, 0)", x.come(0, 0), 5);
        Checks.due("come(0, 9)", x.come(0, 9), 0);
        Checks.due("come(1, 9), where he comes", x.come(1, 9), 9);
        Checks.due("changes", x.count(4), 3);
        Checks.refused("come(0, ..)", Checks.OUTSIDE, slot -> x.come(0, slot), -1, 10, 19);
        Checks.due("changes after refusals", x.count(4), 3);
        Checks.same("comings", Checks.all(x, 2), "9 9");
    }

    /** "OUTSIDE: trouble (0 to 5)" */
    private static void troublesFrom0To5() {
        HermitHours x = Checks.of("p20,p50;9");
        Checks.due("trouble(0, 0)", x.trouble(0, 0), 2);
        Checks.due("trouble(0, 5)", x.trouble(0, 5), 0);
        Checks.due("trouble(1, 5), which it is", x.trouble(1, 5), 5);
        Checks.due("changes", x.count(4), 3);
        Checks.refused("trouble(0, ..)", Checks.OUTSIDE, trouble -> x.trouble(0, trouble), -1, 6, 9);
        Checks.due("changes after refusals", x.count(4), 3);
        Checks.same("troubles", Checks.all(x, 1), "5 5");
    }

    /** "OUTSIDE: patience (0 to 20)": more than a CAVE's text can tell */
    private static void patienceFrom0To20() {
        HermitHours x = Checks.of("s00,s10,s20,s30,s40;9");
        Checks.due("received with 9", x.day(0), 3);
        Checks.due("patience(20)", x.patience(20), 9);
        Checks.same("the day with 20", Checks.row(0, 4, x::day), "5 5 10 5 -1");
        Checks.due("order(0) with 20", x.order(0), 5);
        Checks.due("patience(0)", x.patience(0), 20);
        Checks.same("the day with 0", Checks.row(0, 4, x::day), "0 0 200 0 0");
        Checks.refused("patience()", Checks.OUTSIDE, x::patience, -1, 21);
        Checks.due("patience after refusals", x.count(1), 0);
        Checks.due("changes after refusals", x.count(4), 2);
    }

    /** "STATE: no CAVE", behind OUTSIDE; a pilgrim's number names nothing then. */
    private static void withoutCave() {
        HermitHours x = new HermitHours();
        Checks.refused("patience(), no cave", Checks.OUTSIDE, x::patience, -1, 21);
        Checks.due("patience(0), no cave", x.patience(0), Checks.STATE);
        Checks.due("patience(20), no cave", x.patience(20), Checks.STATE);
        Checks.refused("pilgrim(.., 10), no cave", Checks.UNKNOWN, pilgrim -> x.pilgrim(pilgrim, 10), -1, 0, 1);
        Checks.refused("as(.., 5), no cave", Checks.UNKNOWN, pilgrim -> x.as(pilgrim, 5), -1, 0, 1);
        Checks.refused("come(.., 10), no cave", Checks.UNKNOWN, pilgrim -> x.come(pilgrim, 10), -1, 0, 1);
        Checks.refused("trouble(.., 6), no cave", Checks.UNKNOWN, pilgrim -> x.trouble(pilgrim, 6), -1, 0, 1);
        Checks.due("changes, no cave", x.count(4), 0);
    }
}

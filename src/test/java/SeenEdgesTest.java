/** The boundary cases of promises 15 to 17, each with what the document says of it. */
public final class SeenEdgesTest {
    private static final int MOST = Integer.MAX_VALUE;

    public static void main(String[] args) {
        slotsAndNumbersSeen();
        eightAtMost();
        outsideAheadOfFull();
        fullLeavesWhatIsSeen();
        likeSightsCountEach();
        seenOnTheFirstAndLastSlot();
        forgetOfNoneAndAll();
        seeIsNoChange();
        seenWithoutCave();
        daysFrom1To30();
        seedFrom0();
        whatOfSeasons();
        seasonsWithoutCave();
        restBy2ToThe31();
        seedGoesOn();
        drawsByNumber();
        eachDayAnew();
        seasonsAsTheyWouldBe();
        Checks.end();
    }

    /** "OUTSIDE: slot (0 to 19), many (0 to 5)" */
    private static void slotsAndNumbersSeen() {
        HermitHours x = Checks.of("p00,p00;9");
        Checks.refused("see(.., 0)", Checks.OUTSIDE, slot -> x.see(slot, 0), -1, 20);
        Checks.refused("see(0, ..)", Checks.OUTSIDE, many -> x.see(0, many), -1, 6);
        Checks.refused("see(.., 6)", Checks.OUTSIDE, slot -> x.see(slot, 6), -1, 0, 19, 20);
        Checks.due("seen after refusals", x.count(5), 0);
        Checks.due("see(0, 0)", x.see(0, 0), 1);
        Checks.due("see(0, 5)", x.see(0, 5), 2);
        Checks.due("see(19, 0)", x.see(19, 0), 3);
        Checks.due("see(19, 5)", x.see(19, 5), 4);
    }

    private static HermitHours fullOf(String cave) {
        HermitHours x = Checks.of(cave);
        for (int many = 1; many <= 8; many++) {
            Checks.due("sight " + many, x.see(4, 2), many);
        }
        return x;
    }

    /** "SEEN (8 at most)" */
    private static void eightAtMost() {
        HermitHours x = fullOf("p00,p05;0");
        Checks.due("sight 9", x.see(4, 2), Checks.FULL);
        Checks.due("sight 9, again", x.see(0, 0), Checks.FULL);
        Checks.due("seen", x.count(5), 8);
        x.forget();
        Checks.due("a sight after forget()", x.see(4, 2), 1);
    }

    private static void outsideAheadOfFull() {
        HermitHours x = fullOf("p00,p05;0");
        Checks.refused("see(.., 2), full", Checks.OUTSIDE, slot -> x.see(slot, 2), -1, 20);
        Checks.refused("see(4, ..), full", Checks.OUTSIDE, many -> x.see(4, many), -1, 6);
    }

    private static void fullLeavesWhatIsSeen() {
        HermitHours x = fullOf("p00,p05;0");
        Checks.due("when", x.pilgrim(1, 8), 31);
        // This would leave nothing, were it seen.
        Checks.due("a ninth that would not be so", x.see(0, 5), Checks.FULL);
        Checks.due("when then", x.pilgrim(1, 8), 31);
    }

    private static void likeSightsCountEach() {
        HermitHours x = Checks.of("p00,p05;0");
        x.see(4, 2);
        Checks.due("the same again", x.see(4, 2), 2);
        Checks.due("when", x.pilgrim(1, 8), 31);
        Checks.due("unlike at the same slot", x.see(4, 1), 3);
        Checks.due("when then", x.pilgrim(1, 8), 0);
    }

    private static void seenOnTheFirstAndLastSlot() {
        HermitHours x = Checks.of("p00,p05;0");
        x.see(0, 1);
        Checks.due("when, one seen at 0", x.pilgrim(1, 8), 1022);
        x.see(19, 2);
        Checks.due("when, two seen at 19", x.pilgrim(1, 8), 1022);
        x.see(19, 1);
        Checks.due("when, one seen at 19", x.pilgrim(1, 8), 0);
        // The eighth counts as the first does.
        x = Checks.of("p00,p05;0");
        for (int many = 1; many <= 7; many++) {
            x.see(19, 2);
        }
        x.see(8, 1);
        Checks.due("when, by the eighth", x.pilgrim(1, 8), 512);
    }

    /** "how much was" */
    private static void forgetOfNoneAndAll() {
        HermitHours x = fullOf("p00,p05;0");
        Checks.due("forget() of eight", x.forget(), 8);
        Checks.due("forget() of none", x.forget(), 0);
        Checks.due("seen", x.count(5), 0);
        Checks.due("when", x.pilgrim(1, 8), 1023);
        x.see(0, 2);
        Checks.due("forget() of one", x.forget(), 1);
    }

    /** "how often anything was changed (come(), trouble(), patience())" */
    private static void seeIsNoChange() {
        HermitHours x = Checks.of("p00,p05;0");
        x.see(0, 1);
        x.forget();
        Checks.due("changes", x.count(4), 0);
    }

    /** see() and forget() name no STATE; what was seen is gone with the first CAVE. */
    private static void seenWithoutCave() {
        HermitHours x = new HermitHours();
        Checks.refused("see(.., 0), no cave", Checks.OUTSIDE, slot -> x.see(slot, 0), -1, 20);
        for (int many = 1; many <= 8; many++) {
            Checks.due("sight " + many + ", no cave", x.see(0, 5), many);
        }
        Checks.due("sight 9, no cave", x.see(0, 5), Checks.FULL);
        Checks.due("seen, no cave", x.count(5), 8);
        Checks.due("forget(), no cave", x.forget(), 8);
        x.see(0, 5);
        Checks.write(x, "p00,p05;0");
        x.cave();
        Checks.due("seen with the first cave", x.count(5), 0);
        Checks.due("when with the first cave", x.pilgrim(1, 8), 1023);
    }

    /** "days (1 to 30)"; with no patience two meet from the later coming to the last slot. */
    private static void daysFrom1To30() {
        HermitHours x = Checks.of("p00,p00;0");
        Checks.refused("seasons(.., 0, 0)", Checks.OUTSIDE, days -> x.seasons(days, 0, 0), -1, 0, 31);
        for (int days : new int[] {1, 2, 29, 30}) {
            for (int seed : new int[] {0, 1, 65536, MOST - 1, MOST}) {
                String call = "seasons(" + days + ", " + seed + ", ..)";
                Checks.due(call + " helped", x.seasons(days, seed, 0), 0);
                Checks.due(call + " meetings", x.seasons(days, seed, 1), meetings(days, seed));
            }
        }
    }

    private static long meetings(int days, int seed) {
        long last = seed, sum = 0;
        for (int passed = 0; passed < days; passed++) {
            last = (1103515245L * last + 12345) & 0x7fffffffL;
            long one = (last >> 16) % 10;
            last = (1103515245L * last + 12345) & 0x7fffffffL;
            sum += 20 - Math.max(one, (last >> 16) % 10);
        }
        return sum;
    }

    /** "seed (0 at least)" */
    private static void seedFrom0() {
        HermitHours x = Checks.of("p00,p00;9");
        Checks.due("seasons(1, -1, 2)", x.seasons(1, -1, 2), Checks.OUTSIDE);
        Checks.due("seasons(1, least, 2)", x.seasons(1, Integer.MIN_VALUE, 2), Checks.OUTSIDE);
        Checks.due("seasons(1, 0, 2)", x.seasons(1, 0, 2), 1406932606);
        Checks.due("seasons(1, most, 2)", x.seasons(1, MOST, 2), 288979989);
    }

    private static void whatOfSeasons() {
        HermitHours x = Checks.of("p00,p00;9");
        Checks.refused("seasons(1, 0, ..)", Checks.OUTSIDE, what -> x.seasons(1, 0, what), -1, 3);
        Checks.same("seasons(1, 0, 0) to (.., 2)", Checks.row(0, 2, what -> x.seasons(1, 0, what)), "2 0 1406932606");
    }

    /** "OUTSIDE: .. ; STATE: no CAVE", of several the first */
    private static void seasonsWithoutCave() {
        HermitHours x = new HermitHours();
        Checks.refused("seasons(.., 0, 0), no cave", Checks.OUTSIDE, days -> x.seasons(days, 0, 0), 0, 31);
        Checks.refused("seasons(1, 0, ..), no cave", Checks.OUTSIDE, what -> x.seasons(1, 0, what), -1, 3);
        Checks.due("seasons(1, -1, 0), no cave", x.seasons(1, -1, 0), Checks.OUTSIDE);
        Checks.due("seasons(1, 0, 0), no cave", x.seasons(1, 0, 0), Checks.STATE);
        Checks.due("seasons(30, most, 2), no cave", x.seasons(30, MOST, 2), Checks.STATE);
    }

    /** From the greatest seed: 1043980748 and 288979989 (both by 65536: a rest of 9), then 646343466 (a rest of 2). */
    private static void restBy2ToThe31() {
        HermitHours x = Checks.of("p00,p00;0");
        Checks.due("meetings of two that come at 9", x.seasons(1, MOST, 1), 11);
        x = Checks.of("p00,p00,p00;0");
        Checks.due("meetings with one that comes at 2", x.seasons(1, MOST, 1), 33);
        Checks.due("the seed then", x.seasons(1, MOST, 2), 646343466);
    }

    /** "2 the SEED then": from it on the seasons go on. */
    private static void seedGoesOn() {
        HermitHours x = Checks.of("p00,t10,e20,s30,b40;5");
        int seed = MOST, helped = 0, met = 0;
        for (int day = 1; day <= 30; day++) {
            helped += x.seasons(1, seed, 0);
            met += x.seasons(1, seed, 1);
            seed = x.seasons(1, seed, 2);
        }
        Checks.due("helped on 30 days", x.seasons(30, MOST, 0), helped);
        Checks.due("meetings on 30 days", x.seasons(30, MOST, 1), met);
        Checks.due("the seed then", x.seasons(30, MOST, 2), seed);
    }

    /** "each COMES, by number, at the SLOT by a DRAW": from seed 0 the first comes at 0, the second at 8. */
    private static void drawsByNumber() {
        HermitHours x = Checks.of("s05,p05;2");
        // The sinner comes first and sends him to town: both wait from 8 on.
        Checks.due("helped, the sinner at 0", x.seasons(1, 0, 0), 0);
        Checks.due("meetings, the sinner at 0", x.seasons(1, 0, 1), 12);
        x = Checks.of("p05,s05;2");
        Checks.due("helped, the sinner at 8", x.seasons(1, 0, 0), 1);
        Checks.due("meetings, the sinner at 8", x.seasons(1, 0, 1), 0);
    }

    /** Patience and sayings are there anew on each day. */
    private static void eachDayAnew() {
        HermitHours x = Checks.of("p00,p00,p00;9");
        Checks.due("two of three helped on each day", x.seasons(30, 5, 0), 60);
        x.patience(1);
        Checks.due("one of three helped on each day", x.seasons(30, 5, 0), 30);
    }

    /** "SEASONS by a SEED, as they would be": nothing changes, and what is seen is all one. */
    private static void seasonsAsTheyWouldBe() {
        HermitHours x = Checks.of("p03,t14;2");
        int met = x.seasons(7, 11, 1);
        x.see(0, 5);
        x.come(0, 9);
        long digest = x.digest();
        Checks.due("meetings whenever they come", x.seasons(7, 11, 1), met);
        Checks.due("digest() after seasons()", x.digest(), digest);
        Checks.same("comings after seasons()", Checks.all(x, 2), "9 4");
    }
}

import java.util.ArrayList;
import java.util.List;
import java.util.function.ToIntFunction;

/** "Refusals, of several the first as told by each call ..; they change nothing": every call that can be refused. */
public final class RefusalTest {
    private static final int[] WRONG = {Integer.MIN_VALUE, -2147483647, -256, -1, 127, 256, 65536, Integer.MAX_VALUE};

    record Call(String name, int want, ToIntFunction<HermitHours> made) {
    }

    /** A way to make an object; two made alike are twins. */
    interface Start {
        HermitHours make();
    }

    public static void main(String[] args) {
        each("no cave", RefusalTest::withoutCave, always(), withoutCaveCalls());
        each("two pilgrims", () -> withCave("p01,s12;3"), always(), withCaveCalls());
        each("five pilgrims", () -> withCave("b32,s31,t53,p02,e00;7"), always(), withCaveCalls());
        each("all full", RefusalTest::full, always(), withCaveCalls());
        each("all full", RefusalTest::full, fullCalls(), List.of());
        Checks.end();
    }

    private static HermitHours withoutCave() {
        HermitHours x = new HermitHours();
        x.see(3, 1);
        Checks.write(x, "p0");
        return x;
    }

    /** An image is kept that differs from what is now in all that an image keeps. */
    private static HermitHours withCave(String text) {
        HermitHours x = Checks.of(text);
        x.see(3, 1);
        x.come(0, 8);
        x.image();
        x.come(1, 7);
        x.trouble(0, 5);
        x.patience(19);
        x.see(4, 0);
        Checks.write(x, "p0");
        return x;
    }

    private static HermitHours full() {
        HermitHours x = withCave("p01,s12,e23;3");
        for (int many = 0; many < 8; many++) {
            x.see(2 + many, 0);
        }
        Checks.write(x, "0,p00;0 and more of it than there is room for");
        return x;
    }

    /** Each refused call on a new object, and then all of them on one: it stays like its twin that heard none. */
    private static void each(String state, Start start, List<Call> some, List<Call> others) {
        List<Call> calls = new ArrayList<>(some);
        calls.addAll(others);
        HermitHours all = start.make();
        for (Call call : calls) {
            HermitHours one = start.make();
            String name = call.name() + ", " + state;
            Checks.due(name, call.made().applyAsInt(one), call.want());
            alike(name, one, start.make());
            call.made().applyAsInt(all);
        }
        alike("all refusals, " + state, all, start.make());
    }

    private static void alike(String after, HermitHours x, HermitHours twin) {
        Checks.due("digest() after " + after, x.digest(), twin.digest());
        Checks.due("fault() after " + after, x.fault(), twin.fault());
        Checks.due("restore() after " + after, x.restore(), twin.restore());
        Checks.due("digest() after restore() after " + after, x.digest(), twin.digest());
    }

    /** What is refused in every state. */
    private static List<Call> always() {
        List<Call> calls = new ArrayList<>();
        for (int wrong : WRONG) {
            unknownPilgrim(calls, wrong);
            calls.add(new Call("letter(" + wrong + ")", Checks.OUTSIDE, x -> x.letter(wrong)));
            calls.add(new Call("patience(" + wrong + ")", Checks.OUTSIDE, x -> x.patience(wrong)));
            calls.add(new Call("day(" + wrong + ")", Checks.OUTSIDE, x -> x.day(wrong)));
            calls.add(new Call("waiting(" + wrong + ")", Checks.OUTSIDE, x -> x.waiting(wrong)));
            calls.add(new Call("order(" + wrong + ")", Checks.OUTSIDE, x -> x.order(wrong)));
            calls.add(new Call("see(" + wrong + ", 0)", Checks.OUTSIDE, x -> x.see(wrong, 0)));
            calls.add(new Call("see(0, " + wrong + ")", Checks.OUTSIDE, x -> x.see(0, wrong)));
            calls.add(new Call("seasons(" + wrong + ", 1, 1)", Checks.OUTSIDE, x -> x.seasons(wrong, 1, 1)));
            calls.add(new Call("seasons(1, 1, " + wrong + ")", Checks.OUTSIDE, x -> x.seasons(1, 1, wrong)));
            calls.add(new Call("count(" + wrong + ")", Checks.OUTSIDE, x -> x.count(wrong)));
        }
        calls.add(new Call("letter(0)", Checks.OUTSIDE, x -> x.letter(0)));
        calls.add(new Call("seasons(1, -1, 1)", Checks.OUTSIDE, x -> x.seasons(1, -1, 1)));
        calls.add(new Call("seasons(1, least, 1)", Checks.OUTSIDE, x -> x.seasons(1, Integer.MIN_VALUE, 1)));
        calls.add(new Call("cave()", Checks.STATE, HermitHours::cave));
        return calls;
    }

    /** A wrong pilgrim is UNKNOWN, whether the other number is right or not. */
    private static void unknownPilgrim(List<Call> calls, int wrong) {
        for (int other : new int[] {0, wrong}) {
            String both = "(" + wrong + ", " + other + ")";
            calls.add(new Call("pilgrim" + both, Checks.UNKNOWN, x -> x.pilgrim(wrong, other)));
            calls.add(new Call("as" + both, Checks.UNKNOWN, x -> x.as(wrong, other)));
            calls.add(new Call("come" + both, Checks.UNKNOWN, x -> x.come(wrong, other)));
            calls.add(new Call("trouble" + both, Checks.UNKNOWN, x -> x.trouble(wrong, other)));
            calls.add(new Call("fit" + both, Checks.UNKNOWN, x -> x.fit(wrong, other)));
        }
    }

    /** Of a pilgrim that there is. */
    private static List<Call> withCaveCalls() {
        List<Call> calls = new ArrayList<>();
        for (int wrong : WRONG) {
            for (int pilgrim : new int[] {0, 1}) {
                String both = "(" + pilgrim + ", " + wrong + ")";
                calls.add(new Call("pilgrim" + both, Checks.OUTSIDE, x -> x.pilgrim(pilgrim, wrong)));
                calls.add(new Call("as" + both, Checks.OUTSIDE, x -> x.as(pilgrim, wrong)));
                calls.add(new Call("come" + both, Checks.OUTSIDE, x -> x.come(pilgrim, wrong)));
                calls.add(new Call("trouble" + both, Checks.OUTSIDE, x -> x.trouble(pilgrim, wrong)));
                calls.add(new Call("fit" + both, Checks.OUTSIDE, x -> x.fit(pilgrim, wrong)));
            }
        }
        return calls;
    }

    private static List<Call> withoutCaveCalls() {
        List<Call> calls = new ArrayList<>();
        calls.add(new Call("pilgrim(0, 0)", Checks.UNKNOWN, x -> x.pilgrim(0, 0)));
        calls.add(new Call("as(0, 0)", Checks.UNKNOWN, x -> x.as(0, 0)));
        calls.add(new Call("come(0, 0)", Checks.UNKNOWN, x -> x.come(0, 0)));
        calls.add(new Call("trouble(0, 0)", Checks.UNKNOWN, x -> x.trouble(0, 0)));
        calls.add(new Call("fit(0, 0)", Checks.UNKNOWN, x -> x.fit(0, 0)));
        calls.add(new Call("patience(5)", Checks.STATE, x -> x.patience(5)));
        calls.add(new Call("day(0)", Checks.STATE, x -> x.day(0)));
        calls.add(new Call("waiting(0)", Checks.STATE, x -> x.waiting(0)));
        calls.add(new Call("order(0)", Checks.STATE, x -> x.order(0)));
        calls.add(new Call("seasons(1, 1, 1)", Checks.STATE, x -> x.seasons(1, 1, 1)));
        calls.add(new Call("image()", Checks.STATE, HermitHours::image));
        calls.add(new Call("restore()", Checks.STATE, HermitHours::restore));
        return calls;
    }

    private static List<Call> fullCalls() {
        List<Call> calls = new ArrayList<>();
        for (int code : new int[] {1, '0', 'p', 126}) {
            calls.add(new Call("letter(" + code + ")", Checks.FULL, x -> x.letter(code)));
        }
        calls.add(new Call("see(0, 0)", Checks.FULL, x -> x.see(0, 0)));
        calls.add(new Call("see(19, 5)", Checks.FULL, x -> x.see(19, 5)));
        return calls;
    }
}

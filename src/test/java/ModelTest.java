import java.util.Random;

/** All promises: runs of calls drawn at random, on the class and on the model of the document, must answer alike. */
public final class ModelTest {
    private static final int RUNS = 180, CALLS = 200;
    private static final int[] ODD = {-1, 6, 10, 20, 21, 30, 31, 127, Integer.MIN_VALUE, Integer.MAX_VALUE};

    private final Random random;
    private final String name;
    private final HermitHours x = new HermitHours();
    private final Model model = new Model();

    private ModelTest(int seed) {
        random = new Random(seed);
        name = "run " + seed + ": ";
    }

    public static void main(String[] args) {
        for (int seed = 0; seed < RUNS; seed++) {
            new ModelTest(seed).run();
        }
        Checks.end();
    }

    private void run() {
        for (int made = 0; made < CALLS; made++) {
            step(random.nextInt(60));
        }
        due("digest()", x.digest(), model.digest());
    }

    private void due(String call, long got, long want) {
        Checks.due(name + call, got, want);
    }

    /** Mostly a number from 0 below the bound; now and then one that is out of place. */
    private int number(int bound) {
        return random.nextInt(15) == 0 ? ODD[random.nextInt(ODD.length)] : random.nextInt(bound);
    }

    private void step(int chosen) {
        int a = number(5), b;
        switch (chosen) {
            case 0, 1 -> writeCave();
            case 2 -> writeAny();
            case 3 -> due("blank()", x.blank(), model.blank());
            case 4 -> due("fault()", x.fault(), model.fault());
            case 5 -> due("cave()", x.cave(), model.cave());
            case 6, 7, 8, 9, 10, 11, 12, 13 ->
                due("pilgrim(" + a + ", " + (b = number(10)) + ")", x.pilgrim(a, b), model.pilgrim(a, b));
            case 14, 15 -> due("as(" + a + ", " + (b = number(5)) + ")", x.as(a, b), model.as(a, b));
            case 16, 17, 18 -> due("come(" + a + ", " + (b = number(10)) + ")", x.come(a, b), model.come(a, b));
            case 19, 20, 21 ->
                due("trouble(" + a + ", " + (b = number(6)) + ")", x.trouble(a, b), model.trouble(a, b));
            case 22, 23 -> due("patience(" + (b = number(21)) + ")", x.patience(b), model.patience(b));
            case 24, 25, 26 -> due("day(" + a + ")", x.day(a), model.day(a));
            case 27, 28 -> due("waiting(" + (b = number(20)) + ")", x.waiting(b), model.waiting(b));
            case 29, 30, 31 -> order(random.nextInt(4) == 0 ? number(16) : 10 + a);
            case 32, 33 -> due("fit(" + a + ", " + (b = number(2)) + ")", x.fit(a, b), model.fit(a, b));
            case 34, 35, 36, 37, 38 -> seeSomething();
            case 39 -> due("forget()", x.forget(), model.forget());
            case 40, 41 -> seasons(number(31), random.nextInt() >>> random.nextInt(2), number(3));
            case 42, 43 -> due("image()", x.image(), model.image());
            case 44 -> due("restore()", x.restore(), model.restore());
            case 45, 46, 47 -> due("count(" + (b = number(8)) + ")", x.count(b), model.count(b));
            case 48 -> due("digest()", x.digest(), model.digest());
            default -> due("count(7)", x.count(7), model.count(7));
        }
    }

    private void order(int what) {
        due("order(" + what + ")", x.order(what), model.order(what));
    }

    private void seasons(int days, int seed, int what) {
        due("seasons(" + days + ", " + seed + ", " + what + ")",
                x.seasons(days, seed, what), model.seasons(days, seed, what));
    }

    /** Mostly what is so, for else there would soon be no slot left at which one can have come. */
    private void seeSomething() {
        int slot = number(20);
        int many = random.nextInt(3) == 0 ? number(6) : Math.max(0, model.waiting(slot));
        due("see(" + slot + ", " + many + ")", x.see(slot, many), model.see(slot, many));
    }

    private void writeCave() {
        StringBuilder text = new StringBuilder();
        int pilgrims = 2 + random.nextInt(4), slots = 1 + random.nextInt(10);
        for (int i = 0; i < pilgrims; i++) {
            text.append(i == 0 ? "" : ",").append("ptesb".charAt(random.nextInt(5)));
            text.append(random.nextInt(6)).append(random.nextInt(slots));
        }
        text.append(';').append(random.nextInt(10));
        due("blank()", x.blank(), model.blank());
        if (random.nextInt(6) == 0) {
            text.setCharAt(random.nextInt(text.length()), "ptesb0123456789,;/:"
                    .charAt(random.nextInt(19)));
        }
        for (int i = 0; i < text.length(); i++) {
            due("letter()", x.letter(text.charAt(i)), model.letter(text.charAt(i)));
        }
        due("fault() of " + text, x.fault(), model.fault());
        due("cave() of " + text, x.cave(), model.cave());
    }

    private void writeAny() {
        int letters = random.nextInt(8);
        for (int i = 0; i < letters; i++) {
            int code = random.nextInt(4) == 0 ? number(128) : "pte50,;".charAt(random.nextInt(7));
            due("letter(" + code + ")", x.letter(code), model.letter(code));
        }
        due("fault()", x.fault(), model.fault());
    }
}

/** The hermit's hours: who is received when, waits how long, meets whom and is helped by which saying. */
public final class HermitHours {
    public static final int NONE = -1, UNKNOWN = -101, OUTSIDE = -102, STATE = -103, FULL = -104;

    private static final int PILGRIM = 0, TALKER = 1, PEER = 2, SINNER = 3, BISHOP = 4;
    private static final int FEWEST_PILGRIMS = 2, MOST_PILGRIMS = 5, MOST_ORDERS = 120;
    private static final int SLOTS = 20, COMING_SLOTS = 10, TROUBLES = 6, MOST_PATIENCE = 20;
    private static final int MOST_LETTERS = 24, LAST_CODE = 126, MOST_SEEN = 8, MOST_DAYS = 30;

    private final Page page;
    private final Cave now;
    private final Cave kept;
    private final Day today;
    private final Trials trials;
    private final BestOrder best;
    private boolean isKept;
    private int readings;

    public HermitHours() {
        page = new Page();
        now = new Cave();
        kept = new Cave();
        today = new Day();
        trials = new Trials();
        best = new BestOrder();
        isKept = false;
        readings = 0;
    }

    // ---- the cave

    public int letter(int code) {
        if (!isWithin(code, 1, LAST_CODE)) {
            return OUTSIDE;
        }
        if (page.size >= MOST_LETTERS) {
            return FULL;
        }
        page.write(code);
        return page.size;
    }

    public int blank() {
        int had = page.size;
        page.size = 0;
        return had;
    }

    public int fault() {
        return page.firstWrong();
    }

    public int cave() {
        if (!page.isCave()) {
            return STATE;
        }
        now.read(page);
        page.size = 0;
        isKept = false;
        readings++;
        return now.size;
    }

    public int pilgrim(int pilgrim, int what) {
        if (!now.has(pilgrim)) {
            return UNKNOWN;
        }
        if (!isWithin(what, 0, 9)) {
            return OUTSIDE;
        }
        if (isWithin(what, 5, 7)) {
            today.pass(now);
        }
        if (what >= 8) {
            trials.pass(now, pilgrim);
        }
        return tellPilgrim(pilgrim, what);
    }

    public int as(int pilgrim, int kind) {
        if (!now.has(pilgrim)) {
            return UNKNOWN;
        }
        if (!isWithin(kind, PILGRIM, BISHOP)) {
            return OUTSIDE;
        }
        return now.isKind(pilgrim, kind) ? pilgrim : NONE;
    }

    public int come(int pilgrim, int slot) {
        if (!now.has(pilgrim)) {
            return UNKNOWN;
        }
        if (!isWithin(slot, 0, COMING_SLOTS - 1)) {
            return OUTSIDE;
        }
        int was = now.comes[pilgrim];
        now.comes[pilgrim] = slot;
        now.changes++;
        return was;
    }

    public int trouble(int pilgrim, int trouble) {
        if (!now.has(pilgrim)) {
            return UNKNOWN;
        }
        if (!isWithin(trouble, 0, TROUBLES - 1)) {
            return OUTSIDE;
        }
        int was = now.troubles[pilgrim];
        now.troubles[pilgrim] = trouble;
        now.changes++;
        return was;
    }

    public int patience(int patience) {
        if (!isWithin(patience, 0, MOST_PATIENCE)) {
            return OUTSIDE;
        }
        if (now.isNone()) {
            return STATE;
        }
        int was = now.patience;
        now.patience = patience;
        now.changes++;
        return was;
    }

    public int day(int what) {
        if (!isWithin(what, 0, 4)) {
            return OUTSIDE;
        }
        if (now.isNone()) {
            return STATE;
        }
        today.pass(now);
        return tellDay(what);
    }

    public int waiting(int slot) {
        if (!isWithin(slot, 0, SLOTS - 1)) {
            return OUTSIDE;
        }
        if (now.isNone()) {
            return STATE;
        }
        today.pass(now);
        return today.waitingAt[slot];
    }

    // ---- what would be best

    public int order(int what) {
        if (what != 0 && !isWithin(what, 10, 14)) {
            return OUTSIDE;
        }
        if (now.isNone()) {
            return STATE;
        }
        best.find(now);
        return tellOrder(what);
    }

    public int fit(int pilgrim, int what) {
        if (!now.has(pilgrim)) {
            return UNKNOWN;
        }
        if (!isWithin(what, 0, 1)) {
            return OUTSIDE;
        }
        trials.pass(now, pilgrim);
        return tellFit(what);
    }

    // ---- what is seen

    public int see(int slot, int many) {
        if (!isWithin(slot, 0, SLOTS - 1) || !isWithin(many, 0, MOST_PILGRIMS)) {
            return OUTSIDE;
        }
        if (now.seen.size >= MOST_SEEN) {
            return FULL;
        }
        now.seen.add(slot, many);
        return now.seen.size;
    }

    public int forget() {
        int was = now.seen.size;
        now.seen.size = 0;
        return was;
    }

    public int seasons(int days, int seed, int what) {
        if (!isWithin(days, 1, MOST_DAYS) || seed < 0 || !isWithin(what, 0, 2)) {
            return OUTSIDE;
        }
        if (now.isNone()) {
            return STATE;
        }
        Day drawn = trials.day;
        int last = seed, helped = 0, meetings = 0;
        for (int passed = 0; passed < days; passed++) {
            last = drawComings(drawn, last);
            drawn.passAsComing(now);
            helped += drawn.helped();
            meetings += drawn.meetings();
        }
        return what == 0 ? helped : what == 1 ? meetings : last;
    }

    // ---- what is told of all

    public int image() {
        if (now.isNone()) {
            return STATE;
        }
        kept.copy(now);
        isKept = true;
        return now.changes;
    }

    public int restore() {
        if (!isKept) {
            return STATE;
        }
        now.copy(kept);
        return now.changes;
    }

    public int count(int what) {
        switch (what) {
            case 0: return now.size;
            case 1: return now.patience;
            case 2: return now.allStay();
            case 3: return now.unlikeTroubles();
            case 4: return now.changes;
            case 5: return now.seen.size;
            case 6: return page.size;
            case 7: return readings;
            default: return OUTSIDE;
        }
    }

    public long digest() {
        long h = 991L;
        today.pass(now);
        for (int pilgrim = 0; pilgrim < now.size; pilgrim++) {
            h = mixPilgrim(h, pilgrim);
        }
        if (!now.isNone()) {
            h = mixCave(h);
        }
        for (int place = 0; place < page.size; place++) {
            h = mix(h, page.codes[place]);
        }
        for (int what = 0; what <= 7; what++) {
            h = mix(h, count(what));
        }
        return h;
    }

    // ---- helpers: the tell..() ones speak of a day, trials or an order that have been worked out already

    private long mixPilgrim(long h, int pilgrim) {
        trials.pass(now, pilgrim);
        for (int what = 0; what <= 9; what++) {
            h = mix(h, tellPilgrim(pilgrim, what));
        }
        h = mix(h, tellFit(0));
        return mix(h, tellFit(1));
    }

    private long mixCave(long h) {
        for (int what = 0; what <= 4; what++) {
            h = mix(h, tellDay(what));
        }
        for (int slot = 0; slot < SLOTS; slot++) {
            h = mix(h, today.waitingAt[slot]);
        }
        best.find(now);
        h = mix(h, tellOrder(0));
        for (int what = 10; what <= 14; what++) {
            h = mix(h, tellOrder(what));
        }
        return h;
    }

    private int tellPilgrim(int pilgrim, int what) {
        switch (what) {
            case 0: return now.kinds[pilgrim];
            case 1: return now.troubles[pilgrim];
            case 2: return now.comes[pilgrim];
            case 3: return now.stays(pilgrim);
            case 4: return now.wears(pilgrim);
            case 5: return today.receivedAt[pilgrim];
            case 6: return today.slotsWaited(pilgrim);
            case 7: return today.sayings[pilgrim];
            case 8: return trials.possible(now.seen);
            default: return trials.bestLook(trials.possible(now.seen));
        }
    }

    private int tellDay(int what) {
        switch (what) {
            case 0: return today.received();
            case 1: return today.helped();
            case 2: return today.meetings();
            case 3: return today.patienceLeft;
            default: return today.townAt;
        }
    }

    private int tellOrder(int what) {
        return what == 0 ? best.helped : best.at(what - 10);
    }

    private int tellFit(int what) {
        int slot = trials.leastMeetings();
        return what == 0 ? slot : trials.meetings[slot];
    }

    private int drawComings(Day drawn, int seed) {
        int last = seed;
        for (int pilgrim = 0; pilgrim < now.size; pilgrim++) {
            last = nextSeed(last);
            drawn.comes[pilgrim] = last / 65536 % COMING_SLOTS;
        }
        return last;
    }

    private static int nextSeed(int seed) {
        return (int) ((1103515245L * seed + 12345L) % 2147483648L);
    }

    private static long mix(long h, long number) {
        return 31L * h + number;
    }

    private static boolean isWithin(int number, int least, int most) {
        return number >= least && number <= most;
    }

    private static int kindByLetter(int code) {
        switch (code) {
            case 'p': return PILGRIM;
            case 't': return TALKER;
            case 'e': return PEER;
            case 's': return SINNER;
            case 'b': return BISHOP;
            default: return NONE;
        }
    }

    /** The least saying that helps the trouble and has no bit in said. */
    private static int leastSaying(int trouble, int said) {
        int next = (trouble + 1) % TROUBLES;
        int least = Math.min(trouble, next), other = Math.max(trouble, next);
        if ((said & (1 << least)) == 0) {
            return least;
        }
        return (said & (1 << other)) == 0 ? other : NONE;
    }

    /** The letters written so far, read as a cave: four places to a pilgrim, the fourth one what parts him from the next. */
    private static final class Page {
        final int[] codes = new int[MOST_LETTERS];
        int size;

        void write(int code) {
            if (size < MOST_LETTERS) {
                codes[size] = code;
                size++;
            }
        }

        int firstWrong() {
            int semicolon = NONE;
            for (int place = 0; place < size; place++) {
                if (!isRight(place, semicolon)) {
                    return place;
                }
                if (codes[place] == ';') {
                    semicolon = place;
                }
            }
            return size;
        }

        boolean isCave() {
            return size >= 2 && codes[size - 2] == ';' && firstWrong() == size;
        }

        int pilgrims() {
            return size / 4;
        }

        int digit(int place) {
            return codes[place] - '0';
        }

        private boolean isRight(int place, int semicolon) {
            if (semicolon != NONE) {
                return place == semicolon + 1 && isWithin(digit(place), 0, 9);
            }
            switch (place % 4) {
                case 0: return kindByLetter(codes[place]) != NONE;
                case 1: return isWithin(digit(place), 0, TROUBLES - 1);
                case 2: return isWithin(digit(place), 0, COMING_SLOTS - 1);
                default: return isRightBehind((place + 1) / 4, codes[place]);
            }
        }

        private static boolean isRightBehind(int pilgrims, int code) {
            return code == ',' && pilgrims < MOST_PILGRIMS || code == ';' && pilgrims >= FEWEST_PILGRIMS;
        }
    }

    /** What was seen: so many waiting at a slot. */
    private static final class Sights {
        final int[] slots = new int[MOST_SEEN];
        final int[] numbers = new int[MOST_SEEN];
        int size;

        void add(int slot, int many) {
            if (size < MOST_SEEN) {
                slots[size] = slot;
                numbers[size] = many;
                size++;
            }
        }

        boolean agreeWith(int[] waitingAt) {
            for (int i = 0; i < size; i++) {
                if (waitingAt[slots[i]] != numbers[i]) {
                    return false;
                }
            }
            return true;
        }

        void copy(Sights other) {
            System.arraycopy(other.slots, 0, slots, 0, MOST_SEEN);
            System.arraycopy(other.numbers, 0, numbers, 0, MOST_SEEN);
            size = other.size;
        }
    }

    /** The pilgrims, the patience and what was seen of them; with no pilgrims there is no cave. */
    private static final class Cave {
        final int[] kinds = new int[MOST_PILGRIMS];
        final int[] troubles = new int[MOST_PILGRIMS];
        final int[] comes = new int[MOST_PILGRIMS];
        final Sights seen = new Sights();
        int size;
        int patience;
        int changes;

        /** Only for a page that is a cave. */
        void read(Page page) {
            size = Math.min(page.pilgrims(), MOST_PILGRIMS);
            for (int pilgrim = 0; pilgrim < size; pilgrim++) {
                kinds[pilgrim] = kindByLetter(page.codes[4 * pilgrim]);
                troubles[pilgrim] = page.digit(4 * pilgrim + 1);
                comes[pilgrim] = page.digit(4 * pilgrim + 2);
            }
            patience = page.digit(4 * size);
            changes = 0;
            seen.size = 0;
        }

        void copy(Cave other) {
            System.arraycopy(other.kinds, 0, kinds, 0, MOST_PILGRIMS);
            System.arraycopy(other.troubles, 0, troubles, 0, MOST_PILGRIMS);
            System.arraycopy(other.comes, 0, comes, 0, MOST_PILGRIMS);
            seen.copy(other.seen);
            size = other.size;
            patience = other.patience;
            changes = other.changes;
        }

        boolean isNone() {
            return size == 0;
        }

        boolean has(int pilgrim) {
            return pilgrim >= 0 && pilgrim < size;
        }

        boolean isKind(int pilgrim, int kind) {
            int own = kinds[pilgrim];
            return kind == PILGRIM || kind == own || kind == PEER && own == BISHOP;
        }

        int stays(int pilgrim) {
            return kinds[pilgrim] == TALKER || kinds[pilgrim] == BISHOP ? 2 : 1;
        }

        int wears(int pilgrim) {
            return kinds[pilgrim] == SINNER ? 3 : 1;
        }

        int allStay() {
            int sum = 0;
            for (int pilgrim = 0; pilgrim < size; pilgrim++) {
                sum += stays(pilgrim);
            }
            return sum;
        }

        int unlikeTroubles() {
            int bits = 0;
            for (int pilgrim = 0; pilgrim < size; pilgrim++) {
                bits |= 1 << troubles[pilgrim];
            }
            return Integer.bitCount(bits);
        }
    }

    /** One day of a cave; it has comings of its own, so that they can be other ones than the cave's. */
    private static final class Day {
        final int[] comes = new int[MOST_PILGRIMS];
        final int[] receivedAt = new int[MOST_PILGRIMS];
        final int[] sayings = new int[MOST_PILGRIMS];
        final int[] waitingAt = new int[SLOTS];
        int size;
        int patienceLeft;
        int said;
        int townAt;

        void pass(Cave cave) {
            takeComings(cave);
            passAsComing(cave);
        }

        void takeComings(Cave cave) {
            System.arraycopy(cave.comes, 0, comes, 0, MOST_PILGRIMS);
        }

        void passAsComing(Cave cave) {
            begin(cave);
            int free = 0;
            for (int slot = 0; slot < SLOTS; slot++) {
                int next = slot >= free && townAt == NONE ? firstInLine(cave, slot) : NONE;
                if (next != NONE && cave.wears(next) > patienceLeft) {
                    townAt = slot;
                } else if (next != NONE) {
                    receive(cave, next, slot);
                    free = slot + cave.stays(next);
                }
                waitingAt[slot] = notReceivedBy(slot);
            }
        }

        int slotsWaited(int pilgrim) {
            return (receivedAt[pilgrim] == NONE ? SLOTS : receivedAt[pilgrim]) - comes[pilgrim];
        }

        int received() {
            return size - notReceivedBy(SLOTS - 1);
        }

        int helped() {
            return Integer.bitCount(said);
        }

        int meetings() {
            int sum = 0;
            for (int slot = 0; slot < SLOTS; slot++) {
                sum += waitingAt[slot] * (waitingAt[slot] - 1) / 2;
            }
            return sum;
        }

        private void begin(Cave cave) {
            size = cave.size;
            patienceLeft = cave.patience;
            said = 0;
            townAt = NONE;
            for (int pilgrim = 0; pilgrim < size; pilgrim++) {
                receivedAt[pilgrim] = NONE;
                sayings[pilgrim] = NONE;
            }
        }

        private int firstInLine(Cave cave, int slot) {
            int first = NONE;
            for (int pilgrim = 0; pilgrim < size; pilgrim++) {
                boolean waits = comes[pilgrim] <= slot && receivedAt[pilgrim] == NONE;
                if (waits && (first == NONE || isAhead(cave, pilgrim, first))) {
                    first = pilgrim;
                }
            }
            return first;
        }

        private boolean isAhead(Cave cave, int pilgrim, int other) {
            boolean isPeer = cave.isKind(pilgrim, PEER);
            if (isPeer != cave.isKind(other, PEER)) {
                return isPeer;
            }
            return comes[pilgrim] < comes[other];
        }

        private void receive(Cave cave, int pilgrim, int slot) {
            receivedAt[pilgrim] = slot;
            patienceLeft -= cave.wears(pilgrim);
            int saying = leastSaying(cave.troubles[pilgrim], said);
            sayings[pilgrim] = saying;
            if (saying != NONE) {
                said |= 1 << saying;
            }
        }

        /** Of a day that has passed up to the slot: who has come and is still to be received. */
        private int notReceivedBy(int slot) {
            int many = 0;
            for (int pilgrim = 0; pilgrim < size; pilgrim++) {
                if (comes[pilgrim] <= slot && receivedAt[pilgrim] == NONE) {
                    many++;
                }
            }
            return many;
        }
    }

    /** The days as they would be if one pilgrim came at each of the slots at which he can. */
    private static final class Trials {
        final Day day = new Day();
        final int[][] waitingAt = new int[COMING_SLOTS][SLOTS];
        final int[] meetings = new int[COMING_SLOTS];
        final int[] groups = new int[MOST_PILGRIMS + 1];

        void pass(Cave cave, int pilgrim) {
            day.takeComings(cave);
            for (int coming = 0; coming < COMING_SLOTS; coming++) {
                day.comes[pilgrim] = coming;
                day.passAsComing(cave);
                System.arraycopy(day.waitingAt, 0, waitingAt[coming], 0, SLOTS);
                meetings[coming] = day.meetings();
            }
        }

        int leastMeetings() {
            int least = 0;
            for (int coming = 1; coming < COMING_SLOTS; coming++) {
                if (meetings[coming] < meetings[least]) {
                    least = coming;
                }
            }
            return least;
        }

        /** The comings, as bits, with which all that was seen would be so. */
        int possible(Sights seen) {
            int bits = 0;
            for (int coming = 0; coming < COMING_SLOTS; coming++) {
                if (seen.agreeWith(waitingAt[coming])) {
                    bits |= 1 << coming;
                }
            }
            return bits;
        }

        int bestLook(int possible) {
            if (possible == 0) {
                return NONE;
            }
            int bestSlot = 0, fewest = COMING_SLOTS + 1;
            for (int slot = 0; slot < SLOTS; slot++) {
                int left = mostLeft(possible, slot);
                if (left < fewest) {
                    fewest = left;
                    bestSlot = slot;
                }
            }
            return bestSlot;
        }

        /** How many of the possible comings are left at worst, once it is known how many wait at the slot. */
        private int mostLeft(int possible, int slot) {
            for (int many = 0; many <= MOST_PILGRIMS; many++) {
                groups[many] = 0;
            }
            int most = 0;
            for (int coming = 0; coming < COMING_SLOTS; coming++) {
                if ((possible & (1 << coming)) != 0) {
                    int many = waitingAt[coming][slot];
                    groups[many]++;
                    most = Math.max(most, groups[many]);
                }
            }
            return most;
        }
    }

    /** The order in which most are helped; all orders are tried, by their numbers, so that the first of like ones stays. */
    private static final class BestOrder {
        final int[] tried = new int[MOST_PILGRIMS];
        final int[] order = new int[MOST_PILGRIMS];
        int size;
        int helped;

        void find(Cave cave) {
            begin(cave.size);
            boolean goesOn = true;
            for (int tries = 0; tries < MOST_ORDERS && goesOn; tries++) {
                int now = helpedWhenTried(cave);
                if (now > helped) {
                    helped = now;
                    System.arraycopy(tried, 0, order, 0, MOST_PILGRIMS);
                }
                goesOn = turnToNext();
            }
        }

        int at(int place) {
            return place >= 0 && place < size ? order[place] : NONE;
        }

        private void begin(int pilgrims) {
            size = pilgrims;
            helped = NONE;
            for (int place = 0; place < MOST_PILGRIMS; place++) {
                tried[place] = place;
            }
        }

        private int helpedWhenTried(Cave cave) {
            int patience = cave.patience, said = 0;
            for (int place = 0; place < size; place++) {
                int pilgrim = tried[place];
                patience -= cave.wears(pilgrim);
                if (patience < 0) {
                    break;
                }
                int saying = leastSaying(cave.troubles[pilgrim], said);
                if (saying != NONE) {
                    said |= 1 << saying;
                }
            }
            return Integer.bitCount(said);
        }

        /** Makes of tried the next order by numbers: false if it was the last one. */
        private boolean turnToNext() {
            int rise = size - 2;
            while (rise >= 0 && tried[rise] > tried[rise + 1]) {
                rise--;
            }
            if (rise < 0) {
                return false;
            }
            int larger = size - 1;
            while (larger > rise && tried[larger] < tried[rise]) {
                larger--;
            }
            swap(rise, larger);
            for (int low = rise + 1, high = size - 1; low < high; low++, high--) {
                swap(low, high);
            }
            return true;
        }

        private void swap(int one, int other) {
            int held = tried[one];
            tried[one] = tried[other];
            tried[other] = held;
        }
    }
}

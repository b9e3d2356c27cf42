import java.math.BigInteger;
import java.util.ArrayList;
import java.util.Comparator;
import java.util.HashMap;
import java.util.HashSet;
import java.util.List;
import java.util.Map;
import java.util.Set;
import java.util.regex.Matcher;
import java.util.regex.Pattern;

/** The document written a second time, by other means than the class: values that never change, spans, all by search. */
final class Model {
    private static final int NONE = Checks.NONE, UNKNOWN = Checks.UNKNOWN, OUTSIDE = Checks.OUTSIDE;
    private static final int STATE = Checks.STATE, FULL = Checks.FULL;
    private static final Pattern CAVE =
            Pattern.compile("[ptesb][0-5][0-9](,[ptesb][0-5][0-9]){1,4};[0-9]");

    record Guest(int number, char kind, int trouble, int comes) {
        int stays() {
            return "tb".indexOf(kind) >= 0 ? 2 : 1;
        }

        int wears() {
            return kind == 's' ? 3 : 1;
        }

        boolean isPeer() {
            return "eb".indexOf(kind) >= 0;
        }
    }

    record Sight(int slot, int many) {
    }

    record Scene(List<Guest> guests, int patience, int changes, List<Sight> seen) {
        Scene with(Guest guest) {
            List<Guest> others = new ArrayList<>(guests);
            others.set(guest.number(), guest);
            return new Scene(others, patience, changes, seen);
        }

        Scene changed() {
            return new Scene(guests, patience, changes + 1, seen);
        }

        Scene seeing(List<Sight> sights) {
            return new Scene(guests, patience, changes, sights);
        }
    }

    /** A day: by number the slot at which each is received and the saying he is told. */
    private static final class Told {
        final Map<Integer, Integer> received = new HashMap<>();
        final Map<Integer, Integer> sayings = new HashMap<>();
        int left;
        int town = NONE;
    }

    private String page = "";
    private Scene scene = new Scene(List.of(), 0, 0, List.of());
    private Scene image = null;
    private int readings = 0;

    int letter(int code) {
        if (code < 1 || code > 126) {
            return OUTSIDE;
        }
        if (page.length() == 24) {
            return FULL;
        }
        page += (char) code;
        return page.length();
    }

    int blank() {
        int had = page.length();
        page = "";
        return had;
    }

    int fault() {
        for (int length = 1; length <= page.length(); length++) {
            Matcher matcher = CAVE.matcher(page.substring(0, length));
            if (!matcher.matches() && !matcher.hitEnd()) {
                return length - 1;
            }
        }
        return page.length();
    }

    int cave() {
        if (!CAVE.matcher(page).matches()) {
            return STATE;
        }
        String[] halves = page.split(";");
        List<Guest> guests = new ArrayList<>();
        for (String word : halves[0].split(",")) {
            guests.add(new Guest(guests.size(), word.charAt(0), word.charAt(1) - 48, word.charAt(2) - 48));
        }
        scene = new Scene(guests, Integer.parseInt(halves[1]), 0, List.of());
        image = null;
        page = "";
        readings++;
        return guests.size();
    }

    int pilgrim(int pilgrim, int what) {
        if (isUnknown(pilgrim)) {
            return UNKNOWN;
        }
        Guest guest = scene.guests().get(pilgrim);
        Told told = day(scene);
        return switch (what) {
            case 0 -> "ptesb".indexOf(guest.kind());
            case 1 -> guest.trouble();
            case 2 -> guest.comes();
            case 3 -> guest.stays();
            case 4 -> guest.wears();
            case 5 -> told.received.getOrDefault(pilgrim, NONE);
            case 6 -> told.received.getOrDefault(pilgrim, 20) - guest.comes();
            case 7 -> told.sayings.getOrDefault(pilgrim, NONE);
            case 8 -> when(guest).stream().mapToInt(comes -> 1 << comes).sum();
            case 9 -> look(guest, when(guest));
            default -> OUTSIDE;
        };
    }

    int as(int pilgrim, int kind) {
        if (isUnknown(pilgrim)) {
            return UNKNOWN;
        }
        if (kind < 0 || kind > 4) {
            return OUTSIDE;
        }
        String kinds = switch (scene.guests().get(pilgrim).kind()) {
            case 't' -> "01";
            case 'e' -> "02";
            case 's' -> "03";
            case 'b' -> "024";
            default -> "0";
        };
        return kinds.contains(Integer.toString(kind)) ? pilgrim : NONE;
    }

    int come(int pilgrim, int slot) {
        if (isUnknown(pilgrim)) {
            return UNKNOWN;
        }
        if (slot < 0 || slot > 9) {
            return OUTSIDE;
        }
        Guest was = scene.guests().get(pilgrim);
        scene = scene.with(at(was, slot)).changed();
        return was.comes();
    }

    int trouble(int pilgrim, int trouble) {
        if (isUnknown(pilgrim)) {
            return UNKNOWN;
        }
        if (trouble < 0 || trouble > 5) {
            return OUTSIDE;
        }
        Guest was = scene.guests().get(pilgrim);
        scene = scene.with(new Guest(pilgrim, was.kind(), trouble, was.comes())).changed();
        return was.trouble();
    }

    int patience(int patience) {
        if (patience < 0 || patience > 20) {
            return OUTSIDE;
        }
        if (isNone()) {
            return STATE;
        }
        int was = scene.patience();
        scene = new Scene(scene.guests(), patience, scene.changes() + 1, scene.seen());
        return was;
    }

    int day(int what) {
        if (what < 0 || what > 4) {
            return OUTSIDE;
        }
        if (isNone()) {
            return STATE;
        }
        Told told = day(scene);
        return switch (what) {
            case 0 -> told.received.size();
            case 1 -> told.sayings.size();
            case 2 -> meetings(scene);
            case 3 -> told.left;
            default -> told.town;
        };
    }

    int waiting(int slot) {
        if (slot < 0 || slot > 19) {
            return OUTSIDE;
        }
        return isNone() ? STATE : waiting(scene, slot);
    }

    int order(int what) {
        if (what != 0 && (what < 10 || what > 14)) {
            return OUTSIDE;
        }
        if (isNone()) {
            return STATE;
        }
        List<Guest> best = null;
        for (List<Guest> order : orders(scene.guests())) {
            if (best == null || helped(order) > helped(best)) {
                best = order;
            }
        }
        return what == 0 ? helped(best) : what - 10 < best.size() ? best.get(what - 10).number() : NONE;
    }

    int fit(int pilgrim, int what) {
        if (isUnknown(pilgrim)) {
            return UNKNOWN;
        }
        if (what != 0 && what != 1) {
            return OUTSIDE;
        }
        Guest guest = scene.guests().get(pilgrim);
        int best = 0;
        for (int slot = 9; slot >= 0; slot--) {
            if (meetings(scene.with(at(guest, slot))) <= meetings(scene.with(at(guest, best)))) {
                best = slot;
            }
        }
        return what == 0 ? best : meetings(scene.with(at(guest, best)));
    }

    int see(int slot, int many) {
        if (slot < 0 || slot > 19 || many < 0 || many > 5) {
            return OUTSIDE;
        }
        if (scene.seen().size() == 8) {
            return FULL;
        }
        List<Sight> seen = new ArrayList<>(scene.seen());
        seen.add(new Sight(slot, many));
        scene = scene.seeing(seen);
        return seen.size();
    }

    int forget() {
        int was = scene.seen().size();
        scene = scene.seeing(List.of());
        return was;
    }

    int seasons(int days, int seed, int what) {
        if (days < 1 || days > 30 || seed < 0 || what < 0 || what > 2) {
            return OUTSIDE;
        }
        if (isNone()) {
            return STATE;
        }
        BigInteger last = BigInteger.valueOf(seed);
        int helped = 0, met = 0;
        for (int i = 0; i < days; i++) {
            Scene drawn = scene;
            for (Guest guest : scene.guests()) {
                last = last.multiply(new BigInteger("1103515245")).add(new BigInteger("12345"));
                last = last.mod(BigInteger.TWO.pow(31));
                int slot = last.divide(BigInteger.valueOf(65536)).mod(BigInteger.TEN).intValueExact();
                drawn = drawn.with(at(guest, slot));
            }
            helped += day(drawn).sayings.size();
            met += meetings(drawn);
        }
        return what == 0 ? helped : what == 1 ? met : last.intValueExact();
    }

    int image() {
        if (isNone()) {
            return STATE;
        }
        image = scene;
        return scene.changes();
    }

    int restore() {
        if (image == null) {
            return STATE;
        }
        scene = image;
        return scene.changes();
    }

    int count(int what) {
        return switch (what) {
            case 0 -> scene.guests().size();
            case 1 -> scene.patience();
            case 2 -> scene.guests().stream().mapToInt(Guest::stays).sum();
            case 3 -> (int) scene.guests().stream().map(Guest::trouble).distinct().count();
            case 4 -> scene.changes();
            case 5 -> scene.seen().size();
            case 6 -> page.length();
            case 7 -> readings;
            default -> OUTSIDE;
        };
    }

    long digest() {
        List<Integer> numbers = new ArrayList<>();
        for (Guest guest : scene.guests()) {
            for (int what = 0; what <= 9; what++) {
                numbers.add(pilgrim(guest.number(), what));
            }
            numbers.add(fit(guest.number(), 0));
            numbers.add(fit(guest.number(), 1));
        }
        if (!isNone()) {
            for (int what = 0; what <= 4; what++) {
                numbers.add(day(what));
            }
            for (int slot = 0; slot <= 19; slot++) {
                numbers.add(waiting(slot));
            }
            numbers.add(order(0));
            for (int what = 10; what <= 14; what++) {
                numbers.add(order(what));
            }
        }
        page.chars().forEach(numbers::add);
        for (int what = 0; what <= 7; what++) {
            numbers.add(count(what));
        }
        BigInteger h = BigInteger.valueOf(991);
        for (int number : numbers) {
            h = h.multiply(BigInteger.valueOf(31)).add(BigInteger.valueOf(number));
        }
        return h.longValue();
    }

    private boolean isNone() {
        return scene.guests().isEmpty();
    }

    private boolean isUnknown(int pilgrim) {
        return pilgrim < 0 || pilgrim >= scene.guests().size();
    }

    private static Guest at(Guest guest, int slot) {
        return new Guest(guest.number(), guest.kind(), guest.trouble(), slot);
    }

    /** From one receiving to the next, not slot by slot. */
    private static Told day(Scene scene) {
        Told told = new Told();
        told.left = scene.patience();
        List<Guest> rest = new ArrayList<>(scene.guests());
        int free = 0;
        while (!rest.isEmpty()) {
            int slot = Math.max(free, rest.stream().mapToInt(Guest::comes).min().getAsInt());
            Guest next = rest.stream().filter(guest -> guest.comes() <= slot)
                    .min(Comparator.comparing((Guest guest) -> !guest.isPeer())
                            .thenComparing(Guest::comes).thenComparing(Guest::number)).get();
            if (told.left < next.wears()) {
                told.town = slot;
                break;
            }
            rest.remove(next);
            told.left -= next.wears();
            told.received.put(next.number(), slot);
            free = slot + next.stays();
            say(next, told.sayings);
        }
        return told;
    }

    private static void say(Guest guest, Map<Integer, Integer> sayings) {
        for (int saying = 0; saying <= 5; saying++) {
            boolean helps = guest.trouble() == saying || guest.trouble() == (saying == 0 ? 5 : saying - 1);
            if (helps && !sayings.containsValue(saying)) {
                sayings.put(guest.number(), saying);
                return;
            }
        }
    }

    private static int waiting(Scene scene, int slot) {
        Told told = day(scene);
        return (int) scene.guests().stream()
                .filter(guest -> guest.comes() <= slot && slot < told.received.getOrDefault(guest.number(), 20))
                .count();
    }

    /** Pair by pair: for as many slots as the spans of their waiting share. */
    private static int meetings(Scene scene) {
        Told told = day(scene);
        int sum = 0;
        for (Guest one : scene.guests()) {
            for (Guest other : scene.guests().subList(0, one.number())) {
                int first = Math.max(one.comes(), other.comes());
                int behind = Math.min(told.received.getOrDefault(one.number(), 20),
                        told.received.getOrDefault(other.number(), 20));
                sum += Math.max(0, behind - first);
            }
        }
        return sum;
    }

    private static List<List<Guest>> orders(List<Guest> guests) {
        if (guests.isEmpty()) {
            return List.of(List.of());
        }
        List<List<Guest>> all = new ArrayList<>();
        for (Guest first : guests) {
            List<Guest> others = new ArrayList<>(guests);
            others.remove(first);
            for (List<Guest> rest : orders(others)) {
                List<Guest> order = new ArrayList<>(List.of(first));
                order.addAll(rest);
                all.add(order);
            }
        }
        return all;
    }

    private int helped(List<Guest> order) {
        Map<Integer, Integer> sayings = new HashMap<>();
        int left = scene.patience();
        for (Guest guest : order) {
            if (left < guest.wears()) {
                break;
            }
            left -= guest.wears();
            say(guest, sayings);
        }
        return sayings.size();
    }

    private Set<Integer> when(Guest guest) {
        Set<Integer> comings = new HashSet<>();
        for (int slot = 0; slot <= 9; slot++) {
            Scene other = scene.with(at(guest, slot));
            if (scene.seen().stream().allMatch(sight -> waiting(other, sight.slot()) == sight.many())) {
                comings.add(slot);
            }
        }
        return comings;
    }

    private int look(Guest guest, Set<Integer> comings) {
        int best = NONE, fewest = Integer.MAX_VALUE;
        for (int slot = 0; slot <= 19 && !comings.isEmpty(); slot++) {
            Map<Integer, Integer> left = new HashMap<>();
            for (int comes : comings) {
                left.merge(waiting(scene.with(at(guest, comes)), slot), 1, Integer::sum);
            }
            int worst = left.values().stream().mapToInt(Integer::intValue).max().getAsInt();
            if (worst < fewest) {
                fewest = worst;
                best = slot;
            }
        }
        return best;
    }
}

import java.util.Random;

/** Promises 3 to 21: patterns and texts by chance (the same ones each time), compared with Reference. */
public final class RandomTest {
    private static final Check CHECK = new Check();
    private static final Random RANDOM = new Random(20261115);
    /** What a round asks of the object that goes on from round to round stays below this. */
    private static final int CALLS_OF_A_ROUND = 170;
    private static final int SOME = 20;
    private static int faults;
    private static int good;

    private static House house;
    private static Reference now;
    private static Reference kept;

    public static void main(String[] args) {
        beginAnew();
        for (int round = 0; round < 6000; round++) {
            if (house.callsLeft() < CALLS_OF_A_ROUND) {
                beginAnew();
            }
            String pattern = RANDOM.nextInt(3) == 0 ? noise() : spoil(choices(RANDOM.nextInt(5)));
            compareReading(pattern.substring(0, Math.min(200, pattern.length())));
            if (now != null) {
                compareRest(text());
            }
        }
        System.out.println(good + " patterns, " + faults + " faults");
        CHECK.due("there are enough patterns and faults", good > 1000 && faults > 1000, true);
        CHECK.end();
    }

    private static void beginAnew() {
        house = new House();
        now = null;
        kept = null;
    }

    private static void compareReading(String pattern) {
        int fault = 0;
        int place = PatternHouse.NONE;
        String before = now == null ? "" : now.pattern;
        try {
            now = new Reference(pattern);
            good++;
            compareAllPositions(new Relay(before, pattern));
            compareAllStates(new Relay(before, pattern));
        } catch (Reference.Fault e) {
            fault = e.number;
            place = e.place;
            faults++;
        }
        CHECK.due("fault of " + pattern, Check.readAll(house, pattern), fault);
        CHECK.due("place of the fault in " + pattern, house.place(), place);
    }

    private static void compareRest(String text) {
        comparePositions();
        compareText(text);
        compareStates();
        if (kept == null || RANDOM.nextInt(4) == 0) {
            kept = now;
            house.keep();
        }
        compareWords();
    }

    private static void comparePositions() {
        int size = now.positions.size();
        CHECK.due("positions at " + now.pattern, house.positions(), size);
        CHECK.due("empty at " + now.pattern, house.empty(), now.empty);
        for (int i = 0; i < SOME && size > 0; i += 4) {
            int p = RANDOM.nextInt(size);
            int q = RANDOM.nextInt(size);
            int letter = RANDOM.nextInt(36);
            boolean same = house.is(p, 0) == now.first.get(p) && house.is(p, 1) == now.last.get(p)
                    && house.follows(p, q) == now.follow[p].get(q)
                    && house.has(p, letter) == now.positions.get(p).letters.get(letter);
            CHECK.due("positions " + p + " and " + q + " at " + now.pattern, same, true);
        }
    }

    private static void compareAllPositions(Relay relay) {
        int size = now.positions.size();
        boolean same = true;
        for (int p = 0; p < size; p++) {
            same &= relay.now().is(p, 0) == now.first.get(p);
            same &= relay.now().is(p, 1) == now.last.get(p);
            for (int q = 0; q < size; q++) {
                same &= relay.now().follows(p, q) == now.follow[p].get(q);
            }
            for (int letter = 0; letter < 36; letter++) {
                same &= relay.now().has(p, letter) == now.positions.get(p).letters.get(letter);
            }
        }
        CHECK.due("all positions at " + now.pattern, same, true);
    }

    private static String text() {
        StringBuilder text = new StringBuilder();
        int length = RANDOM.nextInt(4) == 0 ? RANDOM.nextInt(201) : RANDOM.nextInt(12);
        for (int i = 0; i < length; i++) {
            text.append("aaabbbcd09".charAt(RANDOM.nextInt(10)));
        }
        return text.toString();
    }

    private static void compareText(String text) {
        String due = now.finds(text);
        CHECK.text(house, text);
        CHECK.due("whole " + text + " at " + now.pattern, house.whole(), now.whole(text));
        int count = due.isEmpty() ? 0 : due.split(" ").length;
        CHECK.due("finds in " + text + " at " + now.pattern, house.finds(), count);
        for (int i = 0; i < count && i < SOME; i++) {
            int one = RANDOM.nextInt(count);
            CHECK.due("find " + one + " in " + text + " at " + now.pattern,
                    house.find(one, false) + "-" + house.find(one, true), due.split(" ")[one]);
        }
        House fresh = CHECK.pattern(now.pattern);
        CHECK.text(fresh, text);
        CHECK.due("all finds in " + text + " at " + now.pattern, Check.finds(fresh), due);
    }

    private static void compareStates() {
        int size = now.ways.size();
        CHECK.due("states at " + now.pattern, house.states(), size);
        CHECK.due("classes at " + now.pattern, house.classes(), now.classes());
        for (int i = 0; i < SOME; i += 2) {
            int s = RANDOM.nextInt(size);
            int letter = RANDOM.nextInt(36);
            boolean same = house.good(s) == now.goods.get(s) && house.next(s, letter) == now.ways.get(s)[letter];
            CHECK.due("state " + s + " by " + letter + " at " + now.pattern, same, true);
        }
    }

    private static void compareAllStates(Relay relay) {
        int size = now.ways.size();
        boolean same = true;
        for (int s = 0; s < size; s++) {
            same &= relay.now().good(s) == now.goods.get(s);
            for (int letter = 0; letter < 36; letter++) {
                same &= relay.now().next(s, letter) == now.ways.get(s)[letter];
            }
        }
        CHECK.due("all states at " + now.pattern, same, true);
    }

    private static void compareWords() {
        String due = Reference.differ(now, kept);
        int length = house.differ();
        int some = Math.min(length, SOME);
        String told = kept.pattern + " and " + now.pattern;
        CHECK.due("differ of " + told, length, due.equals("same") ? -1 : due.equals("beyond") ? -2 : due.length());
        CHECK.due("word of " + told, Check.word(house, some), due.substring(0, Math.max(0, some)));
        House x = house;
        CHECK.noIndex("letter behind the word of " + told, () -> x.letter(Math.max(0, length)));
        House fresh = CHECK.pattern(kept.pattern);
        fresh.keep();
        CHECK.pattern(fresh, now.pattern);
        CHECK.due("whole word of " + told, Check.word(fresh, fresh.differ()), due.substring(0, Math.max(0, length)));
    }

    private static String choices(int depth) {
        StringBuilder all = new StringBuilder(row(depth));
        while (RANDOM.nextInt(3) == 0) {
            all.append('|').append(row(depth));
        }
        return all.toString();
    }

    private static String row(int depth) {
        StringBuilder all = new StringBuilder();
        int parts = RANDOM.nextInt(4) + (RANDOM.nextInt(8) == 0 ? 10 : 0);
        for (int i = 0; i < parts; i++) {
            all.append(atom(depth));
            while (RANDOM.nextInt(3) == 0) {
                all.append(suffix());
            }
        }
        return all.toString();
    }

    private static String atom(int depth) {
        int kind = RANDOM.nextInt(10);
        if (kind < 4 && depth > 0) {
            return "(" + choices(depth - 1) + ")";
        }
        if (kind == 9) {
            return ".";
        }
        if (kind == 8) {
            return RANDOM.nextBoolean() ? "[a-c]" : RANDOM.nextBoolean() ? "[^b]" : "[^a-y1-90d-x]";
        }
        return String.valueOf("aaabbc09".charAt(RANDOM.nextInt(8)));
    }

    private static String suffix() {
        int kind = RANDOM.nextInt(5);
        if (kind < 3) {
            return "*+?".substring(kind, kind + 1);
        }
        int m = RANDOM.nextInt(4);
        int n = Math.max(1, m + RANDOM.nextInt(3));
        return kind == 3 && m > 0 ? "{" + m + "}" : "{" + m + "," + n + "}";
    }

    private static String spoil(String pattern) {
        if (RANDOM.nextInt(3) != 0 || pattern.isEmpty()) {
            return pattern;
        }
        int at = RANDOM.nextInt(pattern.length());
        String some = RANDOM.nextBoolean() ? "" : noise().substring(0, 1);
        return pattern.substring(0, at) + some + pattern.substring(at + RANDOM.nextInt(2));
    }

    private static String noise() {
        String some = "ab09zz..[]]^-((()))||*+?{{}},A \0\u00ff";
        StringBuilder all = new StringBuilder();
        for (int i = RANDOM.nextInt(8); i >= 0; i--) {
            all.append(some.charAt(RANDOM.nextInt(some.length())));
        }
        return all.toString();
    }
}

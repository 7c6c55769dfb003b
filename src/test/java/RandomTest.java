import java.util.Random;

/** All promises: patterns and texts by chance (the same ones each time), compared with Reference. */
public final class RandomTest {
    private static final Check CHECK = new Check();
    private static final Random RANDOM = new Random(20261115);
    private static int faults;
    private static int good;

    public static void main(String[] args) {
        PatternHouse house = new PatternHouse();
        Reference kept = null;
        Reference before = null;
        for (int round = 0; round < 6000; round++) {
            String pattern = RANDOM.nextInt(3) == 0 ? noise() : spoil(choices(RANDOM.nextInt(5)));
            pattern = pattern.substring(0, Math.min(200, pattern.length()));
            if (round % 40 == 0) {
                house = new PatternHouse();
                kept = null;
                before = null;
            }
            Reference read = compareReading(house, pattern);
            if (read != null) {
                before = read;
                good++;
            } else {
                faults++;
            }
            if (before == null) {
                continue;
            }
            compareLayout(house, before, pattern);
            compareText(house, before, pattern);
            compareAutomaton(house, before, pattern);
            if (kept == null || RANDOM.nextInt(4) == 0) {
                kept = before;
                house.keep();
            }
            compareWords(house, before, kept, pattern);
        }
        System.out.println(good + " patterns, " + faults + " faults");
        CHECK.due("there are enough patterns and faults", good > 1000 && faults > 1000, true);
        CHECK.end();
    }

    private static Reference compareReading(PatternHouse house, String pattern) {
        Reference reference = null;
        int fault = 0;
        int place = -1;
        try {
            reference = new Reference(pattern);
        } catch (Reference.Fault e) {
            fault = e.number;
            place = e.place;
        }
        CHECK.due("fault of " + pattern, Check.readAll(house, pattern), fault);
        CHECK.due("place of the fault in " + pattern, house.place(), place);
        return reference;
    }

    private static void compareLayout(PatternHouse house, Reference due, String pattern) {
        int size = due.positions.size();
        CHECK.due("positions at " + pattern, house.positions(), size);
        CHECK.due("empty at " + pattern, house.empty(), due.empty);
        boolean same = true;
        for (int p = 0; p < size; p++) {
            same &= house.is(p, 0) == due.first.get(p) && house.is(p, 1) == due.last.get(p);
            for (int q = 0; q < size; q++) {
                same &= house.follows(p, q) == due.follow[p].get(q);
            }
            for (int letter = 0; letter < 36; letter++) {
                same &= house.has(p, letter) == due.positions.get(p).letters.get(letter);
            }
        }
        CHECK.due("layout at " + pattern, same, true);
    }

    private static void compareText(PatternHouse house, Reference due, String pattern) {
        StringBuilder text = new StringBuilder();
        int length = RANDOM.nextInt(4) == 0 ? RANDOM.nextInt(200) : RANDOM.nextInt(12);
        for (int i = 0; i < length; i++) {
            text.append("aaabbbcd09".charAt(RANDOM.nextInt(10)));
        }
        CHECK.text(house, text.toString());
        CHECK.due("whole " + text + " at " + pattern, house.whole(), due.whole(text.toString()));
        CHECK.due("finds in " + text + " at " + pattern, Check.finds(house), due.finds(text.toString()));
    }

    private static void compareAutomaton(PatternHouse house, Reference due, String pattern) {
        int size = due.ways.size();
        CHECK.due("states at " + pattern, house.states(), size);
        boolean same = true;
        for (int s = 0; s < size; s++) {
            same &= house.good(s) == due.goods.get(s);
            for (int letter = 0; letter < 36; letter++) {
                same &= house.next(s, letter) == due.ways.get(s)[letter];
            }
        }
        CHECK.due("automaton at " + pattern, same, true);
        CHECK.due("classes at " + pattern, house.classes(), due.classes());
    }

    private static void compareWords(PatternHouse house, Reference now, Reference kept, String pattern) {
        String due = Reference.differ(now, kept);
        int length = house.differ();
        String got = length == -1 ? "same" : length == -2 ? "beyond" : Check.word(house, length);
        CHECK.due("differ at " + pattern, got, due);
        int behind = Math.max(0, length);
        PatternHouse x = house;
        CHECK.noIndex("letter behind the word", () -> x.letter(behind));
    }

    private static String choices(int depth) {
        StringBuilder all = new StringBuilder(row(depth));
        while (RANDOM.nextInt(3) == 0) {
            all.append('|').append(row(depth));
        }
        return all.toString();
    }

    private static String row(int depth) {
        StringBuilder all = new StringBuilder();
        int parts = RANDOM.nextInt(4) + (RANDOM.nextInt(8) == 0 ? 10 : 0);
        for (int i = 0; i < parts; i++) {
            all.append(atom(depth));
            while (RANDOM.nextInt(3) == 0) {
                all.append(suffix());
            }
        }
        return all.toString();
    }

    private static String atom(int depth) {
        int kind = RANDOM.nextInt(10);
        if (kind < 4 && depth > 0) {
            return "(" + choices(depth - 1) + ")";
        }
        if (kind == 9) {
            return ".";
        }
        if (kind == 8) {
            return RANDOM.nextBoolean() ? "[a-c]" : RANDOM.nextBoolean() ? "[^b]" : "[^a-y1-90d-x]";
        }
        return String.valueOf("aaabbc09".charAt(RANDOM.nextInt(8)));
    }

    private static String suffix() {
        int kind = RANDOM.nextInt(5);
        if (kind < 3) {
            return "*+?".substring(kind, kind + 1);
        }
        int m = RANDOM.nextInt(4);
        int n = Math.max(1, m + RANDOM.nextInt(3));
        return kind == 3 && m > 0 ? "{" + m + "}" : "{" + m + "," + n + "}";
    }

    private static String spoil(String pattern) {
        if (RANDOM.nextInt(3) != 0 || pattern.isEmpty()) {
            return pattern;
        }
        int at = RANDOM.nextInt(pattern.length());
        String some = RANDOM.nextBoolean() ? "" : noise().substring(0, 1);
        return pattern.substring(0, at) + some + pattern.substring(at + RANDOM.nextInt(2));
    }

    private static String noise() {
        String some = "ab09zz..[]]^-((()))||*+?{{}},A \0\u00ff";
        StringBuilder all = new StringBuilder();
        for (int i = RANDOM.nextInt(8); i >= 0; i--) {
            all.append(some.charAt(RANDOM.nextInt(some.length())));
        }
        return all.toString();
    }
}

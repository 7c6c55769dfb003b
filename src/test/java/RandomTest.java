import java.util.Random;

/** Promises 3 to 21: patterns and texts by chance (the same ones each time), compared with Reference. */
public final class RandomTest {
    private static final Check CHECK = new Check();
    private static final Random RANDOM = new Random(20261115);
    private static final Chance CHANCE = new Chance(RANDOM);
    /** What a round asks of the object that goes on from round to round stays below this. */
    private static final int CALLS_OF_A_ROUND = 170;
    private static final int SOME = 20;
    private static int faults;
    private static int good;

    private static House house;
    private static Reference now;
    private static Reference kept;

    public static void main(String[] args) {
        beginAnew();
        for (int round = 0; round < 6000; round++) {
            if (house.callsLeft() < CALLS_OF_A_ROUND) {
                beginAnew();
            }
            compareReading(CHANCE.pattern());
            if (now != null) {
                compareRest(CHANCE.text());
            }
        }
        System.out.println(good + " patterns, " + faults + " faults");
        CHECK.due("there are enough patterns and faults", good > 1000 && faults > 1000, true);
        CHECK.end();
    }

    private static void beginAnew() {
        house = new House();
        now = null;
        kept = null;
    }

    private static void compareReading(String pattern) {
        int fault = 0;
        int place = PatternHouse.NONE;
        String before = now == null ? "" : now.pattern;
        try {
            now = new Reference(pattern);
            good++;
            compareAllPositions(new Relay(before, pattern));
            compareAllStates(new Relay(before, pattern));
        } catch (Reference.Fault e) {
            fault = e.number;
            place = e.place;
            faults++;
        }
        CHECK.due("fault of " + pattern, Check.readAll(house, pattern), fault);
        CHECK.due("place of the fault in " + pattern, house.place(), place);
    }

    private static void compareRest(String text) {
        comparePositions();
        compareText(text);
        compareStates();
        if (kept == null || RANDOM.nextInt(4) == 0) {
            kept = now;
            house.keep();
        }
        compareWords();
    }

    private static void comparePositions() {
        int size = now.positions.size();
        CHECK.due("positions at " + now.pattern, house.positions(), size);
        CHECK.due("empty at " + now.pattern, house.empty(), now.empty);
        for (int i = 0; i < SOME && size > 0; i += 4) {
            int p = RANDOM.nextInt(size);
            int q = RANDOM.nextInt(size);
            int letter = RANDOM.nextInt(36);
            boolean same = house.is(p, 0) == now.first.get(p) && house.is(p, 1) == now.last.get(p)
                    && house.follows(p, q) == now.follow[p].get(q)
                    && house.has(p, letter) == now.positions.get(p).letters.get(letter);
            CHECK.due("positions " + p + " and " + q + " at " + now.pattern, same, true);
        }
    }

    private static void compareAllPositions(Relay relay) {
        int size = now.positions.size();
        boolean same = true;
        for (int p = 0; p < size; p++) {
            same &= relay.now().is(p, 0) == now.first.get(p);
            same &= relay.now().is(p, 1) == now.last.get(p);
            for (int q = 0; q < size; q++) {
                same &= relay.now().follows(p, q) == now.follow[p].get(q);
            }
            for (int letter = 0; letter < 36; letter++) {
                same &= relay.now().has(p, letter) == now.positions.get(p).letters.get(letter);
            }
        }
        CHECK.due("all positions at " + now.pattern, same, true);
    }

    private static void compareText(String text) {
        String due = now.finds(text);
        CHECK.text(house, text);
        CHECK.due("whole " + text + " at " + now.pattern, house.whole(), now.whole(text));
        int count = due.isEmpty() ? 0 : due.split(" ").length;
        CHECK.due("finds in " + text + " at " + now.pattern, house.finds(), count);
        for (int i = 0; i < count && i < SOME; i++) {
            int one = RANDOM.nextInt(count);
            CHECK.due("find " + one + " in " + text + " at " + now.pattern,
                    house.find(one, false) + "-" + house.find(one, true), due.split(" ")[one]);
        }
        House fresh = CHECK.pattern(now.pattern);
        CHECK.text(fresh, text);
        CHECK.due("all finds in " + text + " at " + now.pattern, Check.finds(fresh), due);
    }

    private static void compareStates() {
        int size = now.ways.size();
        CHECK.due("states at " + now.pattern, house.states(), size);
        CHECK.due("classes at " + now.pattern, house.classes(), now.classes());
        for (int i = 0; i < SOME; i += 2) {
            int s = RANDOM.nextInt(size);
            int letter = RANDOM.nextInt(36);
            boolean same = house.good(s) == now.goods.get(s) && house.next(s, letter) == now.ways.get(s)[letter];
            CHECK.due("state " + s + " by " + letter + " at " + now.pattern, same, true);
        }
    }

    private static void compareAllStates(Relay relay) {
        int size = now.ways.size();
        boolean same = true;
        for (int s = 0; s < size; s++) {
            same &= relay.now().good(s) == now.goods.get(s);
            for (int letter = 0; letter < 36; letter++) {
                same &= relay.now().next(s, letter) == now.ways.get(s)[letter];
            }
        }
        CHECK.due("all states at " + now.pattern, same, true);
    }

    private static void compareWords() {
        String due = Reference.differ(now, kept);
        int length = house.differ();
        int some = Math.min(length, SOME);
        String told = kept.pattern + " and " + now.pattern;
        CHECK.due("differ of " + told, length, due.equals("same") ? -1 : due.equals("beyond") ? -2 : due.length());
        CHECK.due("word of " + told, Check.word(house, some), due.substring(0, Math.max(0, some)));
        House x = house;
        CHECK.noIndex("letter behind the word of " + told, () -> x.letter(Math.max(0, length)));
        House fresh = CHECK.pattern(kept.pattern);
        fresh.keep();
        CHECK.pattern(fresh, now.pattern);
        CHECK.due("whole word of " + told, Check.word(fresh, fresh.differ()), due.substring(0, Math.max(0, length)));
    }
}

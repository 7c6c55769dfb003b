import java.util.Random;

/**
 * Promises 1 to 21: runs of 512 calls on a new object, by chance (the same ones each time), right calls and wrong
 * ones mixed, each answer compared with Model. As every later answer is compared too, a call that throws and
 * changes something is seen.
 */
public final class RunsTest {
    private static final Check CHECK = new Check();
    private static final int RUNS = 150;
    private static final int[] FAR = {Integer.MIN_VALUE, -1, 64, 256, 300, Integer.MAX_VALUE};
    private static final String[] WRONG_LETTERS = {"A", "`", "{", "/", ":", "\0", "\u00e1", "_"};

    private final Random random;
    private final Chance chance;
    private final House house = new House();
    private final Model model = new Model();
    private String pending = "";

    /** A call, told as it is written, and what is due of it. */
    private record Step(String told, Object due, Check.Call call) {
        Object got() {
            try {
                return call.answer();
            } catch (RuntimeException e) {
                return e.getClass();
            }
        }
    }

    private RunsTest(int seed) {
        random = new Random(seed);
        chance = new Chance(random);
    }

    public static void main(String[] args) {
        int first = args.length > 0 ? Integer.parseInt(args[0]) : 1;
        int last = args.length > 1 ? Integer.parseInt(args[1]) : RUNS;
        for (int seed = first; seed <= last; seed++) {
            new RunsTest(seed).run(seed);
        }
        CHECK.end();
    }

    private void run(int seed) {
        for (int i = 1; house.callsLeft() > 0; i++) {
            int kind = random.nextInt(9);
            Step step = kind < 3 ? type() : kind < 5 ? text() : other();
            CHECK.due("run " + seed + ", call " + i + ": " + step.told, step.got(), step.due);
        }
    }

    /** A pattern is typed in pieces, with other calls between them, and read when it ends or there is no room. */
    private Step type() {
        if (pending.isEmpty()) {
            pending = random.nextInt(12) == 0 ? "a|".repeat(random.nextInt(110)) : chance.pattern();
            return new Step("read()", model.read(), house::read);
        }
        int n = random.nextInt(12) == 0 ? FAR[random.nextInt(FAR.length)] : 1 + random.nextInt(8);
        n = random.nextInt(20) == 0 ? 9 * random.nextInt(2) : n;
        if (n >= 1 && n <= 8) {
            n = Math.min(n, pending.length());
        }
        int count = n;
        long w = packed(count, pending);
        Object due = model.type(w, count);
        if (due instanceof Integer) {
            pending = pending.substring(count);
        } else if (due == IllegalStateException.class) {
            pending = "";
        }
        return new Step("type(" + w + ", " + count + ")", due, () -> house.type(w, count));
    }

    /** The bytes above the first ones are anything. */
    private long packed(int n, String some) {
        long w = random.nextLong();
        for (int i = 0; i < n && i < some.length() && i < 8; i++) {
            w = w & ~(255L << 8 * i) | (some.charAt(i) & 255L) << 8 * i;
        }
        return w;
    }

    private Step text() {
        if (random.nextInt(30) == 0) {
            return new Step("clear()", model.clear(), house::clear);
        }
        int n = random.nextInt(8) == 0 ? FAR[random.nextInt(FAR.length)] : random.nextInt(10);
        String letters = (chance.text() + "abababab").substring(0, 8);
        if (random.nextInt(5) == 0) {
            int at = random.nextInt(8);
            letters = letters.substring(0, at) + WRONG_LETTERS[random.nextInt(8)] + letters.substring(at + 1);
        }
        long w = packed(n, letters);
        return new Step("feed(" + w + ", " + n + ")", model.feed(w, n), () -> house.feed(w, n));
    }

    /** An index that is there, or one at the edges, or one far away. */
    private int index(int there) {
        int kind = random.nextInt(8);
        if (kind == 0) {
            return FAR[random.nextInt(FAR.length)];
        }
        return kind == 1 || there == 0 ? there - random.nextInt(2) : random.nextInt(there);
    }

    private Step other() {
        int kind = random.nextInt(16);
        return kind < 4 ? plain(kind) : kind < 8 ? ofPositions(kind) : kind < 12 ? ofStates(kind) : ofWords(kind);
    }

    private Step plain(int kind) {
        int i = index(model.findsThere());
        boolean ends = random.nextBoolean();
        return switch (kind) {
            case 0 -> new Step("place()", model.place(), house::place);
            case 1 -> new Step("whole()", model.whole(), house::whole);
            case 2 -> new Step("finds()", model.finds(), house::finds);
            default -> new Step("find(" + i + ", " + ends + ")", model.find(i, ends), () -> house.find(i, ends));
        };
    }

    private Step ofPositions(int kind) {
        int p = index(model.positionsThere());
        int q = index(model.positionsThere());
        int what = index(2);
        int letter = index(36);
        return switch (kind) {
            case 4 -> random.nextBoolean() ? new Step("positions()", model.positions(), house::positions)
                    : new Step("empty()", model.empty(), house::empty);
            case 5 -> new Step("is(" + p + ", " + what + ")", model.is(p, what), () -> house.is(p, what));
            case 6 -> new Step("follows(" + p + ", " + q + ")", model.follows(p, q), () -> house.follows(p, q));
            default -> new Step("has(" + p + ", " + letter + ")", model.has(p, letter), () -> house.has(p, letter));
        };
    }

    private Step ofStates(int kind) {
        int state = index(model.statesThere());
        int letter = index(36);
        return switch (kind) {
            case 8 -> new Step("states()", model.states(), house::states);
            case 9 -> new Step("next(" + state + ", " + letter + ")", model.next(state, letter),
                    () -> house.next(state, letter));
            case 10 -> new Step("good(" + state + ")", model.good(state), () -> house.good(state));
            default -> new Step("classes()", model.classes(), house::classes);
        };
    }

    private Step ofWords(int kind) {
        int i = index(model.lettersThere());
        return switch (kind) {
            case 12 -> new Step("keep()", model.keep(), house::keep);
            case 13 -> new Step("differ()", model.differ(), house::differ);
            default -> new Step("letter(" + i + ")", model.letter(i), () -> house.letter(i));
        };
    }
}

/** Promises 15 to 18: states, next, good and classes. */
final class Promises15To18 {
    private static final Check CHECK = SentencesTest.CHECK;
    /** 287 states, each one of a class of its own; each c in front of it makes one more. */
    private static final String CORE = "[ab]{0,5}a[ab]{5}{2}";
    /**
     * Rows of a: the beginning, the first a, 15 * 19 more, and the set without positions; each b makes a state more.
     * With twelve there are 300.
     */
    private static final String ROWS_OF_A = "a(a{5}{3})*|a(a{5}{3}a{4})*";
    private static final String STATES_299 = ROWS_OF_A + "|b{5}{2}b";
    private static final String STATES_300 = ROWS_OF_A + "|b{5}{2}bb";
    private static final String STATES_301 = ROWS_OF_A + "|b{5}{2}bbb";
    private static final String STATES_513 = ".*a.{4}{2}";
    private static final int[] NO_STATES = {Integer.MIN_VALUE, -1, 4, 5, 299, 300, 301, Integer.MAX_VALUE};

    private Promises15To18() {
    }

    static void run() {
        promise15HowManyStates();
        promise15TheFirst300();
        promise15NoPattern();
        promise16TheStateToWhichOneGoes();
        promise16BeyondTheFirst300();
        promise16NoPattern();
        promise16NoSuchStateOrLetter();
        promise17WhetherAStateIsGood();
        promise17NoPattern();
        promise17NoSuchState();
        promise18HowManyClasses();
        promise18MoreThan300States();
        promise18Just300WithWaysBeyond();
        promise18NoPattern();
    }

    /** One that has read a pattern with a fault alone. */
    private static House failed() {
        House x = new House();
        CHECK.due("fault", Check.readAll(x, "ab)"), 1);
        return x;
    }

    private static void promise15HowManyStates() {
        CHECK.says("Promise 15", "How many states the automaton has, 300 at most");
        states("", 2);
        states("[^a-9]", 2);
        states(".*", 2);
        states("a", 3);
        states("c{5}{2}cc" + CORE, 299);
        states("c{5}{2}ccc" + CORE, 300);
        states("c{5}{2}cccc" + CORE, 300);
        states(STATES_299, 299);
        states(STATES_300, 300);
        states(STATES_301, 300);
        states(STATES_513, 300);
        states(".*a.{5}{5}{2}", 300);
    }

    private static void states(String pattern, int due) {
        House x = CHECK.pattern(pattern);
        CHECK.due("states of " + pattern, x.states(), due);
        CHECK.answers("the last one of " + pattern, () -> x.good(due - 1));
        CHECK.noIndex("none behind it of " + pattern, () -> x.good(due));
    }

    private static void promise15TheFirst300() {
        CHECK.says("Promise 15", "(of more there are the first 300; those beyond are not looked for).");
        for (String pattern : new String[] {STATES_301, STATES_513, "c{5}{2}cccc" + CORE}) {
            Reference due = new Reference(pattern);
            Relay relay = new Relay(pattern);
            for (int s = 0; s < 300; s++) {
                CHECK.due("good " + s + " of " + pattern, relay.now().good(s), due.goods.get(s));
                for (int letter = 0; letter < 36; letter++) {
                    CHECK.due("from " + s + " by " + letter + " of " + pattern, relay.now().next(s, letter),
                            due.ways.get(s)[letter]);
                }
            }
        }
    }

    private static void promise15NoPattern() {
        CHECK.says("Promise 15", "IllegalStateException.");
        CHECK.noState("new", () -> new House().states());
        CHECK.noState("failed", () -> failed().states());
    }

    private static void promise16TheStateToWhichOneGoes() {
        CHECK.says("Promise 16", "The state to which one goes with a letter;");
        House x = CHECK.pattern("a*9");
        // {0} by a, {} by b, {1} by 9
        CHECK.due("from the beginning by the least letter", x.next(0, 0), 1);
        CHECK.due("from the beginning by the greatest letter", x.next(0, 35), 3);
        CHECK.due("from the beginning by the greatest but one", x.next(0, 34), 2);
        CHECK.due("to itself", x.next(1, 0), 1);
        CHECK.due("from the last state by the least letter", x.next(3, 0), 2);
        CHECK.due("from the last state by the greatest letter", x.next(3, 35), 2);
        House y = CHECK.pattern(STATES_300);
        CHECK.due("from state 298 to state 299", y.next(298, 0), 299);
        CHECK.due("from state 299 round", y.next(299, 0), 4);
        CHECK.due("from state 299 to the set without positions", y.next(299, 35), 3);
    }

    private static void promise16BeyondTheFirst300() {
        CHECK.says("Promise 16", "NONE if it is beyond the first 300.");
        CHECK.due("ways beyond of 299 states", waysBeyond(STATES_299), 0);
        CHECK.due("ways beyond of 300 states", waysBeyond(STATES_300), 0);
        CHECK.due("ways beyond of 301 states", waysBeyond(STATES_301), 1);
        House x = CHECK.pattern(STATES_301);
        CHECK.due("from state 298 to state 299", x.next(298, 0), 299);
        CHECK.due("from state 299 to state 300", x.next(299, 0), PatternHouse.NONE);
        CHECK.due("from state 299 to one of the first", x.next(299, 1), 3);
        House y = CHECK.pattern(STATES_513);
        CHECK.due("from state 299 by a", y.next(299, 0), PatternHouse.NONE);
        CHECK.due("from state 299 by 9", y.next(299, 35), PatternHouse.NONE);
    }

    private static int waysBeyond(String pattern) {
        Relay relay = new Relay(pattern);
        int states = relay.now().states();
        int beyond = 0;
        for (int s = 0; s < states; s++) {
            for (int letter = 0; letter < 36; letter++) {
                int target = relay.now().next(s, letter);
                CHECK.due("the way from " + s + " by " + letter + " is a state or NONE",
                        target == PatternHouse.NONE || target > 0 && target < states, true);
                beyond += target == PatternHouse.NONE ? 1 : 0;
            }
        }
        return beyond;
    }

    private static void promise16NoPattern() {
        CHECK.says("Promise 16", "IllegalStateException (first);");
        CHECK.noState("new", () -> new House().next(0, 0));
        CHECK.noState("failed", () -> failed().next(0, 0));
        CHECK.noState("and no state", () -> failed().next(-1, 0));
        CHECK.noState("and no letter", () -> failed().next(0, 36));
    }

    private static void promise16NoSuchStateOrLetter() {
        CHECK.says("Promise 16", "IndexOutOfBoundsException.");
        House x = CHECK.pattern("a*9");
        CHECK.due("states", x.states(), 4);
        for (int s : NO_STATES) {
            CHECK.noIndex("from " + s, () -> x.next(s, 0));
            CHECK.noIndex("no letter, and from " + s, () -> x.next(s, -1));
        }
        for (int letter : new int[] {Integer.MIN_VALUE, -1, 36, 37, 'a', Integer.MAX_VALUE}) {
            CHECK.noIndex("by " + letter, () -> x.next(3, letter));
        }
        House y = CHECK.pattern(STATES_301);
        CHECK.noIndex("from state 300", () -> y.next(300, 0));
        CHECK.noIndex("from NONE", () -> y.next(PatternHouse.NONE, 0));
        House z = CHECK.pattern("a*9");
        CHECK.noIndex("asked before the automaton was", () -> z.next(4, 0));
    }

    private static void promise17WhetherAStateIsGood() {
        CHECK.says("Promise 17", "Whether a state is GOOD.");
        House x = CHECK.pattern("a*9");
        CHECK.due("good ones", x.good(0) + " " + x.good(1) + " " + x.good(2) + " " + x.good(3), "false false false true");
        House y = CHECK.pattern("a?");
        CHECK.due("good ones", y.good(0) + " " + y.good(1) + " " + y.good(2), "true true false");
        CHECK.due("state 299 of 300: 286 times a", CHECK.pattern(STATES_300).good(299), true);
        CHECK.due("state 299 of 301: 285 times a", CHECK.pattern(STATES_301).good(299), false);
    }

    private static void promise17NoPattern() {
        CHECK.says("Promise 17", "IllegalStateException (first);");
        CHECK.noState("new", () -> new House().good(0));
        CHECK.noState("failed", () -> failed().good(0));
        CHECK.noState("and no state", () -> failed().good(-1));
        CHECK.noState("and no state", () -> failed().good(300));
    }

    private static void promise17NoSuchState() {
        CHECK.says("Promise 17", "IndexOutOfBoundsException.");
        House x = CHECK.pattern("a*9");
        for (int s : NO_STATES) {
            CHECK.noIndex("good of " + s, () -> x.good(s));
        }
        House y = CHECK.pattern(STATES_301);
        CHECK.noIndex("good of state 300", () -> y.good(300));
        CHECK.noIndex("good of NONE", () -> y.good(PatternHouse.NONE));
        CHECK.pattern(y, "a");
        CHECK.noIndex("a state of the pattern before", () -> y.good(3));
    }

    private static void promise18HowManyClasses() {
        CHECK.says("Promise 18", "How many classes of states there are, two being of one if the same words lead from them to GOOD ones;");
        classes(".*", 1);
        classes("[^a-9]", 1);
        classes("[^a-9]{5}", 1);
        classes("", 2);
        classes("a*", 2);
        classes("a", 3);
        classes("ab", 4);
        classes("ba", 4);
        classes("abc", 5);
        classes("a{5}{5}", 27);
        classes("ab|cb", 4);
        classes("ab|c9", 5);
        // told apart by the 26th letter alone
        classes("ad{5}{5}e|bd{5}{5}f", 55);
        classes("ad{5}{5}e|bd{5}{5}e", 29);
        classes(".?{5}{4}{3}", 62);
        classes("c{5}{2}cc" + CORE, 299);
        classes("c{5}{2}ccc" + CORE, 300);
        classes(STATES_300, 299);
    }

    private static void classes(String pattern, int due) {
        House x = CHECK.pattern(pattern);
        CHECK.due("classes of " + pattern, x.classes(), due);
        CHECK.due("and again", x.classes(), due);
    }

    private static void promise18MoreThan300States() {
        CHECK.says("Promise 18", "NONE if there are more than 300 states");
        classes("c{5}{2}cccc" + CORE, PatternHouse.NONE);
        classes(STATES_301, PatternHouse.NONE);
        classes(STATES_513, PatternHouse.NONE);
        House x = new House();
        for (int round = 0; round < 4; round++) {
            CHECK.pattern(x, STATES_301);
            CHECK.due("classes", x.classes(), PatternHouse.NONE);
            CHECK.pattern(x, STATES_300);
            CHECK.due("classes of the next pattern", x.classes(), 299);
            CHECK.pattern(x, "ab");
            CHECK.due("classes of the next but one", x.classes(), 4);
        }
    }

    private static void promise18Just300WithWaysBeyond() {
        CHECK.says("Promise 18", "(or just those 300 with ways beyond).");
        House x = CHECK.pattern(STATES_301);
        CHECK.due("just 300", x.states(), 300);
        CHECK.due("a way beyond", x.next(299, 0), PatternHouse.NONE);
        CHECK.due("classes", x.classes(), PatternHouse.NONE);
    }

    private static void promise18NoPattern() {
        CHECK.says("Promise 18", "IllegalStateException.");
        CHECK.noState("new", () -> new House().classes());
        CHECK.noState("failed", () -> failed().classes());
    }
}

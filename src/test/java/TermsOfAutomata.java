/** "Terms": the automaton. */
final class TermsOfAutomata {
    private static final Check CHECK = SentencesTest.CHECK;

    private TermsOfAutomata() {
    }

    static void run() {
        setsAndTheBeginning();
        noWayBackToTheBeginning();
        ways();
        allPositionsAtOnce();
        goodOnes();
        theBeginningIsGood();
        numberedAsTheyAreMet();
        theSetWithoutPositions();
    }

    private static void setsAndTheBeginning() {
        CHECK.says("Terms", "THE AUTOMATON has as states sets of positions, and the BEGINNING:");
        states("", 2);
        states("[^a-9]", 2);
        states(".*", 2);
        states("a*", 3);
        states("a", 3);
        states("a|a", 3);
        states("(a|a)*", 3);
        states("aa*", 4);
    }

    private static void noWayBackToTheBeginning() {
        CHECK.says("Terms", "THE AUTOMATON has as states sets of positions, and the BEGINNING:");
        for (String pattern : new String[] {"", "a*", ".*", "(ab)*", "[^a-9]*"}) {
            House x = CHECK.pattern(pattern);
            int size = x.states();
            for (int s = 0; s < size; s++) {
                for (int letter = 0; letter < 36; letter++) {
                    CHECK.due("the way from " + s + " by " + letter + " of " + pattern, x.next(s, letter) > 0, true);
                }
            }
        }
    }

    private static void ways() {
        CHECK.says("Terms", "from the beginning with a letter all FIRST, from a set all that FOLLOW one of its, that have the letter;");
        House x = CHECK.pattern("ab|ac|b");
        // {0,2} by a, {4} by b, {} by c; then {1} and {3}
        ways(x, 0, 1, 2, 3);
        ways(x, 1, 3, 4, 5);
        ways(x, 2, 3, 3, 3);
        ways(x, 4, 3, 3, 3);
        ways(x, 5, 3, 3, 3);
        CHECK.due("states", x.states(), 6);
        House y = CHECK.pattern("(a|b)*a.");
        // {0,2} by a, {1} by b, {} by c; then {0,2,3}, {1,3}, {3}
        ways(y, 0, 1, 2, 3);
        ways(y, 1, 4, 5, 6);
        ways(y, 2, 1, 2, 3);
        ways(y, 3, 3, 3, 3);
        ways(y, 4, 4, 5, 6);
        ways(y, 5, 1, 2, 3);
        ways(y, 6, 3, 3, 3);
        CHECK.due("states", y.states(), 7);
        states("a[^a-9]b", 3);
    }

    private static void ways(House x, int state, int byA, int byB, int byC) {
        CHECK.due("from " + state + " by a", x.next(state, 0), byA);
        CHECK.due("from " + state + " by b", x.next(state, 1), byB);
        CHECK.due("from " + state + " by c", x.next(state, 2), byC);
    }

    private static void allPositionsAtOnce() {
        CHECK.says("Terms", "from the beginning with a letter all FIRST, from a set all that FOLLOW one of its, that have the letter;");
        House x = CHECK.pattern(".?{5}{4}{3}");
        CHECK.due("positions", x.positions(), 60);
        CHECK.due("a set of sixty, one of fifty-nine and so on", x.states(), 62);
        for (int s = 0; s < 62; s++) {
            CHECK.due("from " + s, x.next(s, 35), Math.min(s + 1, 61));
            CHECK.due("good " + s, x.good(s), s < 61);
        }
        CHECK.due("classes", x.classes(), 62);
    }

    private static void goodOnes() {
        CHECK.says("Terms", "a state is GOOD if it has a LAST one");
        House x = CHECK.pattern("ab|a");
        CHECK.due("the beginning", x.good(0), false);
        CHECK.due("by a: one of two is LAST", x.good(1), true);
        CHECK.due("the set without positions", x.good(2), false);
        CHECK.due("by ab", x.good(x.next(1, 1)), true);
        CHECK.due("by a, none is LAST", CHECK.pattern("ab").good(1), false);
        CHECK.due("by the highest position", good("a".repeat(60), 60), true);
        CHECK.due("by the highest but one", good("a".repeat(60), 59), false);
    }

    /** Whether the state is good to which so many times a leads. */
    private static boolean good(String pattern, int times) {
        House x = CHECK.pattern(pattern);
        int state = 0;
        for (int i = 0; i < times; i++) {
            state = x.next(state, 0);
        }
        return x.good(state);
    }

    private static void theBeginningIsGood() {
        CHECK.says("Terms", "(the beginning, if the pattern has the word without letters).");
        for (String pattern : new String[] {"", "a*", "a?", "a|", "()", "a{0,5}", "[^a-9]*"}) {
            CHECK.due("the beginning of " + pattern, CHECK.pattern(pattern).good(0), true);
        }
        for (String pattern : new String[] {"a", "a+", "(a|b)", "a*b", "[^a-9]"}) {
            CHECK.due("the beginning of " + pattern, CHECK.pattern(pattern).good(0), false);
        }
        CHECK.due("the set without positions is not, even then", CHECK.pattern("").good(1), false);
    }

    private static void numberedAsTheyAreMet() {
        CHECK.says("Terms", "Those that are reached are numbered, the beginning 0, then as they are met: from each one in turn by letters 0, 1, ..");
        House x = CHECK.pattern("b|a");
        ways(x, 0, 1, 2, 3);
        House y = CHECK.pattern("9|0|z");
        CHECK.due("by a", y.next(0, 0), 1);
        CHECK.due("by z", y.next(0, 25), 2);
        CHECK.due("by 0", y.next(0, 26), 3);
        CHECK.due("by 9", y.next(0, 35), 4);
        House z = CHECK.pattern("ad|bc");
        ways(z, 0, 1, 2, 3);
        CHECK.due("from the first of both by d", z.next(1, 3), 4);
        CHECK.due("then from the second by c", z.next(2, 2), 5);
        CHECK.due("those that are not reached have no number", CHECK.pattern("a[^a-9]bcdefg").states(), 3);
    }

    private static void theSetWithoutPositions() {
        CHECK.says("Terms", "(also the set without positions).");
        House x = CHECK.pattern("9|a");
        ways(x, 0, 1, 2, 2);
        CHECK.due("by 9", x.next(0, 35), 3);
        CHECK.due("states", x.states(), 4);
        for (int letter = 0; letter < 36; letter++) {
            CHECK.due("it leads to itself", x.next(2, letter), 2);
        }
        CHECK.due("it is not reached", CHECK.pattern(".*").states(), 2);
        CHECK.due("it is reached late", CHECK.pattern("..").next(2, 0), 3);
        CHECK.due("it is reached first", CHECK.pattern("").next(0, 0), 1);
    }

    private static void states(String pattern, int states) {
        CHECK.due("states of " + pattern, CHECK.pattern(pattern).states(), states);
    }
}

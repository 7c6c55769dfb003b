/** Promises 5 to 9: positions, empty, is, follows and has. */
final class Promises05To09 {
    private static final Check CHECK = SentencesTest.CHECK;
    private static final int[] NO_POSITIONS = {Integer.MIN_VALUE, -1, 3, 4, 59, 60, 64, Integer.MAX_VALUE};

    private Promises05To09() {
    }

    static void run() {
        promise5HowManyPositions();
        promise5NoPattern();
        promise6TheWordWithoutLetters();
        promise6NoPattern();
        promise7FirstAndLast();
        promise7NoPattern();
        promise7NoSuchPosition();
        promise7AnotherWhat();
        promise8Follows();
        promise8NoPattern();
        promise8NoSuchPosition();
        promise9HasALetter();
        promise9NoPattern();
        promise9NoSuchPositionOrLetter();
    }

    /** One that has read a pattern with a fault alone. */
    private static House failed() {
        House x = new House();
        CHECK.due("fault", Check.readAll(x, "ab)"), 1);
        return x;
    }

    private static void promise5HowManyPositions() {
        CHECK.says("Promise 5", "How many positions there are.");
        CHECK.due("none", CHECK.pattern("").positions(), 0);
        CHECK.due("none", CHECK.pattern("(|)*").positions(), 0);
        CHECK.due("one", CHECK.pattern("a").positions(), 1);
        CHECK.due("one", CHECK.pattern("[a-z]*").positions(), 1);
        CHECK.due("59", CHECK.pattern("a".repeat(59)).positions(), 59);
        CHECK.due("60", CHECK.pattern("a".repeat(60)).positions(), 60);
        CHECK.due("60", CHECK.pattern("a{0,5}{0,4}{0,3}").positions(), 60);
        House x = CHECK.pattern("a".repeat(60));
        CHECK.due("fault", Check.readAll(x, "ab{9}"), 3);
        CHECK.due("those of the one before", x.positions(), 60);
        CHECK.pattern(x, "");
        CHECK.due("none again", x.positions(), 0);
    }

    private static void promise5NoPattern() {
        CHECK.says("Promise 5", "IllegalStateException.");
        CHECK.noState("new", () -> new House().positions());
        House x = failed();
        CHECK.noState("failed", () -> x.positions());
        CHECK.due("read of nothing", x.read(), 0);
        CHECK.due("a pattern of no character is a pattern", x.positions(), 0);
    }

    private static void promise6TheWordWithoutLetters() {
        CHECK.says("Promise 6", "Whether the pattern has the word without letters.");
        for (String pattern : new String[] {"", "()", "|", "a|", "a*", "a?", "a{0,1}", "a?b*", "(a|b*)+", "(a?){5}",
            "[^a-9]*"}) {
            CHECK.due("empty of " + pattern, CHECK.pattern(pattern).empty(), true);
        }
        for (String pattern : new String[] {"a", "a+", "a{1}", "a{1,5}", "a?b", "(a|b)", "[^a-9]", "()a"}) {
            CHECK.due("empty of " + pattern, CHECK.pattern(pattern).empty(), false);
        }
    }

    private static void promise6NoPattern() {
        CHECK.says("Promise 6", "IllegalStateException.");
        CHECK.noState("new", () -> new House().empty());
        House x = failed();
        CHECK.noState("failed", () -> x.empty());
    }

    private static void promise7FirstAndLast() {
        CHECK.says("Promise 7", "Whether a position is FIRST (what = 0), LAST (1).");
        House x = CHECK.pattern("abc");
        CHECK.due("0 is FIRST", x.is(0, 0), true);
        CHECK.due("0 is LAST", x.is(0, 1), false);
        CHECK.due("1 is FIRST", x.is(1, 0), false);
        CHECK.due("1 is LAST", x.is(1, 1), false);
        CHECK.due("2 is FIRST", x.is(2, 0), false);
        CHECK.due("2 is LAST", x.is(2, 1), true);
        House y = CHECK.pattern("a".repeat(59) + "b?");
        CHECK.due("58 is LAST", y.is(58, 1), true);
        CHECK.due("59 is LAST", y.is(59, 1), true);
        CHECK.due("59 is FIRST", y.is(59, 0), false);
        House z = CHECK.pattern("a?{5}{4}{3}");
        CHECK.due("59 is FIRST", z.is(59, 0), true);
        CHECK.due("0 is LAST", z.is(0, 1), true);
    }

    private static void promise7NoPattern() {
        CHECK.says("Promise 7", "IllegalStateException (first);");
        House x = failed();
        CHECK.noState("new", () -> new House().is(0, 0));
        CHECK.noState("failed", () -> x.is(0, 0));
        CHECK.noState("and no position", () -> x.is(-1, 0));
        CHECK.noState("and another what", () -> x.is(0, 2));
        CHECK.noState("and both", () -> x.is(60, -1));
    }

    private static void promise7NoSuchPosition() {
        CHECK.says("Promise 7", "IndexOutOfBoundsException;");
        House x = CHECK.pattern("abc");
        for (int p : NO_POSITIONS) {
            CHECK.noIndex("FIRST " + p, () -> x.is(p, 0));
            CHECK.noIndex("LAST " + p, () -> x.is(p, 1));
            CHECK.noIndex("another what, and " + p, () -> x.is(p, 2));
        }
        House y = CHECK.pattern("");
        CHECK.noIndex("there is none", () -> y.is(0, 0));
    }

    private static void promise7AnotherWhat() {
        CHECK.says("Promise 7", "IllegalArgumentException: another what.");
        House x = CHECK.pattern("abc");
        for (int what : new int[] {Integer.MIN_VALUE, -1, 2, 3, 256, Integer.MAX_VALUE}) {
            CHECK.noArgument("0 with what " + what, () -> x.is(0, what));
            CHECK.noArgument("2 with what " + what, () -> x.is(2, what));
        }
    }

    private static void promise8Follows() {
        CHECK.says("Promise 8", "Whether position q FOLLOWS p.");
        House x = CHECK.pattern("ab*c");
        CHECK.due("FOLLOW", Told.behind(x), "0:1,2 1:1,2 2:");
        CHECK.due("b behind a", x.follows(0, 1), true);
        CHECK.due("a behind b", x.follows(1, 0), false);
        House y = CHECK.pattern("(" + "a?".repeat(60) + ")+");
        for (int p : new int[] {0, 31, 32, 59}) {
            for (int q : new int[] {0, 31, 32, 59}) {
                CHECK.due(q + " behind " + p, y.follows(p, q), true);
            }
        }
        House z = CHECK.pattern("a".repeat(60));
        for (int p = 0; p < 60; p++) {
            CHECK.due("the next behind " + p, p < 59 && z.follows(p, p + 1), p < 59);
            CHECK.due("itself behind " + p, z.follows(p, p), false);
            CHECK.due("the first behind " + p, z.follows(p, 0), false);
        }
    }

    private static void promise8NoPattern() {
        CHECK.says("Promise 8", "IllegalStateException (first);");
        House x = failed();
        CHECK.noState("new", () -> new House().follows(0, 0));
        CHECK.noState("failed", () -> x.follows(0, 0));
        CHECK.noState("and no position p", () -> x.follows(-1, 0));
        CHECK.noState("and no position q", () -> x.follows(0, 60));
    }

    private static void promise8NoSuchPosition() {
        CHECK.says("Promise 8", "IndexOutOfBoundsException.");
        House x = CHECK.pattern("abc");
        for (int p : NO_POSITIONS) {
            CHECK.noIndex("behind " + p, () -> x.follows(p, 2));
            CHECK.noIndex(p + " behind another", () -> x.follows(2, p));
            CHECK.noIndex("both " + p, () -> x.follows(p, p));
        }
        House y = CHECK.pattern("()");
        CHECK.noIndex("there is none", () -> y.follows(0, 0));
    }

    private static void promise9HasALetter() {
        CHECK.says("Promise 9", "Whether a position has a letter.");
        House x = CHECK.pattern("a9.[^a-9]");
        CHECK.due("the least letter", Told.letters(x, 0), "a");
        CHECK.due("the greatest letter", Told.letters(x, 1), "9");
        CHECK.due("all", Told.letters(x, 2), Told.LETTERS);
        CHECK.due("none", Told.letters(x, 3), "");
        CHECK.due("the highest position", Told.letters(CHECK.pattern("a".repeat(59) + "b"), 59), "b");
    }

    private static void promise9NoPattern() {
        CHECK.says("Promise 9", "IllegalStateException (first);");
        House x = failed();
        CHECK.noState("new", () -> new House().has(0, 0));
        CHECK.noState("failed", () -> x.has(0, 0));
        CHECK.noState("and no position", () -> x.has(-1, 0));
        CHECK.noState("and no letter", () -> x.has(0, 36));
    }

    private static void promise9NoSuchPositionOrLetter() {
        CHECK.says("Promise 9", "IndexOutOfBoundsException.");
        House x = CHECK.pattern("abc");
        for (int p : NO_POSITIONS) {
            CHECK.noIndex("position " + p, () -> x.has(p, 0));
            CHECK.noIndex("no letter, and position " + p, () -> x.has(p, 36));
        }
        for (int letter : new int[] {Integer.MIN_VALUE, -1, 36, 37, 63, 64, 'a', Integer.MAX_VALUE}) {
            CHECK.noIndex("letter " + letter, () -> x.has(2, letter));
        }
        House y = CHECK.pattern("");
        CHECK.noIndex("there is no position", () -> y.has(0, 0));
    }
}

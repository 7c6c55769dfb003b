/** Promises 19 to 21: keep, differ and letter. */
final class Promises19To21 {
    private static final Check CHECK = SentencesTest.CHECK;
    /** 300 states, and 301: see Promises15To18. */
    private static final String STATES_300 = "a(a{5}{3})*|a(a{5}{3}a{4})*|b{5}{2}bb";
    private static final String STATES_301 = "a(a{5}{3})*|a(a{5}{3}a{4})*|b{5}{2}bbb";
    /** Rows of a whose length can't be parted by 2 * 11 * 13. */
    private static final String NOT_286 = "(aa)*a|(a{5}{2}a)*a{1,5}a{0,5}|(a{5}{2}aaa)*a{1,5}a{0,5}a{0,2}";

    private Promises19To21() {
    }

    static void run() {
        promise19ThePatternIsKept();
        promise19WhatIsKeptStays();
        promise19NoPattern();
        promise20TheFirstOfTheShortest();
        promise20ThatJustOneHas();
        promise20HowManyLetters();
        promise20TheyMeanTheSame();
        promise20StatesBeyond();
        promise20NoPatternOrNoneKept();
        promise21LetterI();
        promise21TheLatestDiffer();
        promise21NoneWasFound();
        promise21NoSuchPlace();
    }

    private static House both(String kept, String pattern) {
        House x = CHECK.pattern(kept);
        x.keep();
        return CHECK.pattern(x, pattern);
    }

    private static void differs(House x, String word) {
        int length = x.differ();
        CHECK.due("letters of " + word, length, word.length());
        CHECK.due("word", Check.word(x, length), word);
    }

    private static void differs(String one, String other, String word) {
        differs(both(one, other), word);
        differs(both(other, one), word);
    }

    private static void promise19ThePatternIsKept() {
        CHECK.says("Promise 19", "The pattern is KEPT.");
        House x = CHECK.pattern("a");
        x.keep();
        CHECK.due("it is the pattern still", x.positions(), 1);
        CHECK.due("it is as the pattern", x.differ(), PatternHouse.NONE);
        CHECK.pattern(x, "b");
        differs(x, "a");
        x.keep();
        x.keep();
        CHECK.due("kept twice", x.differ(), PatternHouse.NONE);
        CHECK.pattern(x, "c");
        differs(x, "b");
        CHECK.pattern(x, "");
        x.keep();
        CHECK.due("a pattern of no character", x.differ(), PatternHouse.NONE);
        CHECK.pattern(x, "a*");
        differs(x, "a");
    }

    private static void promise19WhatIsKeptStays() {
        CHECK.says("Promise 19", "The pattern is KEPT.");
        House x = CHECK.pattern("ab|c");
        x.keep();
        for (String other : new String[] {"a", "", "a(b|c)*d", STATES_300, "[^a-9]", STATES_301, "x{5}{5}"}) {
            CHECK.pattern(x, other);
            x.states();
            x.differ();
            CHECK.due("fault", Check.readAll(x, "ab(cd|e"), 2);
            CHECK.pattern(x, "c|ab");
            CHECK.due("what is kept behind " + other, x.differ(), PatternHouse.NONE);
        }
        CHECK.text(x, "abc");
        x.clear();
        CHECK.due("what is kept is no matter of the text", x.differ(), PatternHouse.NONE);
    }

    private static void promise19NoPattern() {
        CHECK.says("Promise 19", "IllegalStateException.");
        House x = new House();
        CHECK.noState("new", () -> x.keep());
        CHECK.due("fault", Check.readAll(x, "a)"), 1);
        CHECK.noState("failed", () -> x.keep());
        CHECK.pattern(x, "a");
        CHECK.noState("and nothing was kept", () -> x.differ());
    }

    private static void promise20TheFirstOfTheShortest() {
        CHECK.says("Promise 20", "The first of the shortest words (by letters, the lesser first)");
        differs("aaa", "b", "b");
        differs("[^a-9]", "aaa|z", "z");
        differs("[^a-9]", "0|z", "z");
        differs("[^a-9]", "9|0", "0");
        differs("[^a-9]", "b9|ba|c", "c");
        differs("[^a-9]", "b9|ba", "ba");
        differs("[^a-9]", "ba|ab", "ab");
        differs("x|ab|b9", "x|b8|ac", "ab");
        differs("[^a-9]", "b9999|9aaaa", "b9999");
    }

    private static void promise20ThatJustOneHas() {
        CHECK.says("Promise 20", "that just one of the pattern and the KEPT one has:");
        differs("a|b", "a|c", "b");
        differs("a*", "(aa)*", "a");
        differs("a|ab", "a|ac", "ab");
        differs("[^a-9]", "", "");
        differs("a+", "a*", "");
        differs(".", "[^9]", "9");
        differs(STATES_300, "a(a{5}{3})*|a(a{5}{3}a{4})*", "b".repeat(12));
    }

    private static void promise20HowManyLetters() {
        CHECK.says("Promise 20", "how many letters;");
        CHECK.due("none", both("a*", "a+").differ(), 0);
        CHECK.due("one", both("a*", "a?b|").differ(), 1);
        CHECK.due("sixty", both("[^a-9]", "a{5}{4}{3}").differ(), 60);
        CHECK.due("more than a text may have", both("a+", NOT_286).differ(), 286);
        CHECK.due("more than a text may have", both(NOT_286, "a+").differ(), 286);
    }

    private static void promise20TheyMeanTheSame() {
        CHECK.says("Promise 20", "NONE if they mean the same;");
        for (String[] two : new String[][] {{"", "()"}, {"", "[^a-9]*"}, {"[^a-9]", "a[^a-9]"}, {"a", "a"}, {"a?", "|a"},
            {"a{0,5}", "a?{5}"}, {"a+", "aa*"}, {"(a|b)*", "(a*b*)*"}, {".", "[a-9]"}, {"[^a]", "[b-z]|[0-9]"},
            {"(ab)*a", "a(ba)*"}, {STATES_300, STATES_300}, {NOT_286 + "|b{5}", "b{5}|" + NOT_286}}) {
            CHECK.due(two[0] + " and " + two[1], both(two[0], two[1]).differ(), PatternHouse.NONE);
            CHECK.due(two[1] + " and " + two[0], both(two[1], two[0]).differ(), PatternHouse.NONE);
        }
    }

    private static void promise20StatesBeyond() {
        CHECK.says("Promise 20", "-2 if one of both has states beyond the first 300.");
        CHECK.due("the pattern", both("a", STATES_301).differ(), -2);
        CHECK.due("the kept one", both(STATES_301, "a").differ(), -2);
        CHECK.due("both", both(STATES_301, STATES_301).differ(), -2);
        CHECK.due("even if a word without letters would do", both(STATES_301, "").differ(), -2);
        CHECK.due("even if a word without letters would do", both("", STATES_301).differ(), -2);
        CHECK.due("just 300", both(STATES_300, "").differ(), 0);
        CHECK.due("just 300 twice", both(STATES_300, STATES_300 + "|").differ(), 0);
        House x = CHECK.pattern(STATES_301);
        x.keep();
        CHECK.due("one pattern, which is the kept one", x.differ(), -2);
        CHECK.pattern(x, STATES_300);
        CHECK.due("the kept one still", x.differ(), -2);
        x.keep();
        CHECK.due("none now", x.differ(), PatternHouse.NONE);
    }

    private static void promise20NoPatternOrNoneKept() {
        CHECK.says("Promise 20", "IllegalStateException.");
        House x = new House();
        CHECK.noState("no pattern and none kept", () -> x.differ());
        CHECK.due("fault", Check.readAll(x, "a)"), 1);
        CHECK.noState("failed", () -> x.differ());
        CHECK.pattern(x, "");
        CHECK.noState("none kept", () -> x.differ());
        x.keep();
        CHECK.due("a pattern of no character is kept", x.differ(), PatternHouse.NONE);
    }

    private static void promise21LetterI() {
        CHECK.says("Promise 21", "Letter i of the word that the latest differ() found");
        House x = both("[^a-9]", "az09");
        CHECK.due("differ", x.differ(), 4);
        CHECK.due("the least letter", x.letter(0), 0);
        CHECK.due("z", x.letter(1), 25);
        CHECK.due("0", x.letter(2), 26);
        CHECK.due("the greatest letter", x.letter(3), 35);
        CHECK.due("again", x.letter(0), 0);
        House y = both("a+", NOT_286);
        CHECK.due("differ", y.differ(), 286);
        CHECK.due("all of a long word", Check.word(y, 286), "a".repeat(286));
    }

    private static void promise21TheLatestDiffer() {
        CHECK.says("Promise 21", "Letter i of the word that the latest differ() found");
        House x = both("abc", "abd");
        differs(x, "abc");
        Check.typeAll(x, "xyz");
        CHECK.text(x, "xyz");
        CHECK.due("behind type and feed", Check.word(x, 3), "abc");
        CHECK.due("read", x.read(), 0);
        CHECK.due("behind read", Check.word(x, 3), "abc");
        CHECK.due("fault", Check.readAll(x, "x("), 2);
        x.keep();
        x.states();
        x.classes();
        x.finds();
        x.clear();
        CHECK.due("behind keep and others", Check.word(x, 3), "abc");
        CHECK.pattern(x, "z");
        differs(x, "z");
        CHECK.noIndex("nothing is left of the longer word", () -> x.letter(1));
    }

    private static void promise21NoneWasFound() {
        CHECK.says("Promise 21", "(one that answered NONE or -2 found none).");
        House x = both("abc", "abd");
        differs(x, "abc");
        x.keep();
        CHECK.due("differ", x.differ(), PatternHouse.NONE);
        CHECK.noIndex("behind NONE", () -> x.letter(0));
        House y = both("abc", "abd");
        differs(y, "abc");
        CHECK.pattern(y, STATES_301);
        CHECK.due("differ", y.differ(), -2);
        CHECK.noIndex("behind -2", () -> y.letter(0));
        CHECK.pattern(y, "abd");
        differs(y, "abc");
    }

    private static void promise21NoSuchPlace() {
        CHECK.says("Promise 21", "IndexOutOfBoundsException.");
        House none = new House();
        CHECK.noIndex("no differ()", () -> none.letter(0));
        CHECK.noState("differ", () -> none.differ());
        CHECK.noIndex("a refused differ()", () -> none.letter(0));
        House x = both("abc", "abd");
        CHECK.noIndex("not yet", () -> x.letter(0));
        differs(x, "abc");
        for (int i : new int[] {Integer.MIN_VALUE, -1, 3, 4, 599, 600, Integer.MAX_VALUE}) {
            CHECK.noIndex("letter " + i, () -> x.letter(i));
        }
        CHECK.pattern(x, "");
        CHECK.due("the word without letters", x.differ(), 0);
        CHECK.noIndex("it has none", () -> x.letter(0));
    }
}

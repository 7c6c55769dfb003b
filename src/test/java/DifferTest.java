/** Promises 19 to 21: keep, differ and letter. */
public final class DifferTest {
    private static final Check CHECK = new Check();

    public static void main(String[] args) {
        keeping();
        same();
        different();
        longWords();
        beyond();
        letters();
        CHECK.end();
    }

    private static void keeping() {
        House x = CHECK.pattern("ab");
        CHECK.noState("none kept", () -> x.differ());
        x.keep();
        CHECK.due("with itself", x.differ(), PatternHouse.NONE);
        CHECK.pattern(x, "a");
        differs(x, "a");
        CHECK.pattern(x, "ac");
        differs(x, "ab");
        CHECK.due("a fault", Check.readAll(x, "a{"), 2);
        differs(x, "ab");
        x.keep();
        CHECK.due("kept anew", x.differ(), PatternHouse.NONE);
        CHECK.pattern(x, "ab");
        differs(x, "ab");
        for (int i = 0; i < 5; i++) {
            CHECK.pattern(x, "x{" + (i + 1) + "}");
            CHECK.due("what is kept stays, whatever is read", x.differ() > 0, true);
        }
        CHECK.pattern(x, "a(c)");
        CHECK.due("what is kept is still ac", x.differ(), PatternHouse.NONE);
        CHECK.due("keep changes no pattern", x.positions(), 2);
        House y = CHECK.pattern(".*a.{5}..");
        y.keep();
        CHECK.pattern(y, "a");
        CHECK.due("states of the pattern, not of the kept one", y.states(), 3);
        differs(y, "a");
        CHECK.due("states", y.states(), 3);
    }

    private static void same() {
        same("a(b|c)*d", "a((b|c)*)*d");
        same("(a|b)*abb", "(b|aa*b)*aa*bb");
        same("[^a-z0-9]", "[^a-z0-9]{5}");
        same("[^a-z0-9]*", "");
        same("a?", "a|");
        same("a{2,4}", "aa|aaa|aaaa");
        same("a+", "aa*");
        same("(a*b*)*", "[ab]*");
        same(".", "[a-z]|[0-9]");
        same("(.*){5}", ".*");
        same("a(ba)*", "(ab)*a");
        same("a{5}{5}", "(aaaaa){5}");
        same("(aa)*|(aaa)*", "(aaa)*|(aa)*");
        same("(a{5}{4})*", "(a{4}{5})*");
        same("a(a{5}{3})*|a(a{5}{3}a{4})*|b{4}{3}", "b{3}{4}|(a{5}{3}a{4})*a|a(a{5}{3})*");
    }

    private static void same(String kept, String pattern) {
        House x = both(kept, pattern);
        CHECK.due(kept + " and " + pattern, x.differ(), PatternHouse.NONE);
        CHECK.noIndex("no word", () -> x.letter(0));
    }

    private static void different() {
        differ("a*", "a+", "");
        differ("a", "b", "a");
        differ("b", "a", "a");
        differ(".", "[^9]", "9");
        differ("z|0", "z|1", "0");
        differ("ab|ba", "ab|bb", "ba");
        differ("abc|z", "abd|y", "y");
        differ("ab|c{3}", "c{3}", "ab");
        differ("a(b|c)*d", "a(b|c){0,3}d", "abbbbd");
        differ("(a|b)*abb", "[ab]*a[ab]b", "aab");
        differ("(aa)*", "(aaa)*", "aa");
        differ("a(aa)*|b", "(aaa)+|b", "a");
        differ("(ab)*", "(a|b)*", "a");
        differ("[^a-z0-9]", "a", "a");
        differ("[^a-z0-9]", "", "");
        differ("b*a", "b*a|bbc", "bbc");
        differ("aaa|b", "bb|b", "bb");
        differ(".*a.", ".*a.|.*b..", "bba");
    }

    private static void differ(String kept, String pattern, String word) {
        differs(both(kept, pattern), word);
        differs(both(pattern, kept), word);
    }

    private static House both(String kept, String pattern) {
        House x = CHECK.pattern(kept);
        x.keep();
        return CHECK.pattern(x, pattern);
    }

    private static void differs(House x, String word) {
        int length = x.differ();
        CHECK.due("length", length, word.length());
        CHECK.due("word", Check.word(x, Math.max(0, length)), word);
        CHECK.noIndex("letter behind it", () -> x.letter(word.length()));
        CHECK.noIndex("letter before it", () -> x.letter(-1));
    }

    private static void longWords() {
        differ("a*", "a{0,5}{5}{2}", "a".repeat(51));
        differ("(a{5}{5}aaaa)*", "(a{5}{5}aaaa)*|a{5}{5}a{5}a", "a".repeat(31));
        differ("(a{5})*", "(a{5}|a{5}a)*", "a".repeat(6));
        // a row of a whose length can't be parted by 2, or by 3, 5, 7: the first that is missing has 2 * 3 * 5 * 7
        differ("a+", "(aa)*a|(aaa)*a{1,2}|(a{5})*a{1,4}|(a{5}aa)*a{1,3}a{0,3}", "a".repeat(210));
        differ("(a{5}{3})*|(a{5}{3}a{4})*", "(a{5}{3})*|(a{5}{3}a{4})*|b{5}c", "bbbbbc");
    }

    private static void beyond() {
        House x = CHECK.pattern(".*a.{5}...");
        x.keep();
        CHECK.due("with itself", x.differ(), -2);
        CHECK.pattern(x, "a");
        CHECK.due("the kept one", x.differ(), -2);
        CHECK.noIndex("no word", () -> x.letter(0));
        x.keep();
        CHECK.pattern(x, ".*a.{5}...");
        CHECK.due("the pattern", x.differ(), -2);
        CHECK.pattern(x, "");
        CHECK.due("none of both", x.differ(), 0);
        CHECK.pattern(x, "a(a{5}{3})*|a(a{5}{3}a{4})*|b{4}{3}");
        CHECK.due("just 300 states", x.differ(), 12);
        CHECK.pattern(x, "a(a{5}{3})*|a(a{5}{3}a{4})*|b{4}{3}b");
        CHECK.due("300 states with ways beyond", x.differ(), -2);
    }

    private static void letters() {
        House x = both("abc", "abd");
        differs(x, "abc");
        CHECK.pattern(x, "q");
        CHECK.due("the word stays when a pattern is read", Check.word(x, 3), "abc");
        x.keep();
        CHECK.due("and when one is kept", Check.word(x, 3), "abc");
        CHECK.due("differ", x.differ(), PatternHouse.NONE);
        CHECK.noIndex("none was found", () -> x.letter(0));
        CHECK.pattern(x, "");
        CHECK.due("the word without letters", x.differ(), 0);
        CHECK.noIndex("it has none", () -> x.letter(0));
        CHECK.pattern(x, "0");
        differs(x, "q");
        CHECK.pattern(x, ".*a.{5}...");
        CHECK.due("states beyond", x.differ(), -2);
        CHECK.noIndex("none was found", () -> x.letter(0));
        for (int i : new int[] {-1, Integer.MIN_VALUE, Integer.MAX_VALUE}) {
            CHECK.noIndex("letter " + i, () -> x.letter(i));
        }
    }
}

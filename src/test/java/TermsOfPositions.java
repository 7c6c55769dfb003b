/** "Terms": a pattern laid out as positions. */
final class TermsOfPositions {
    private static final Check CHECK = SentencesTest.CHECK;

    private TermsOfPositions() {
    }

    static void run() {
        atomsThatAreNoChoices();
        copies();
        noneOrJustM();
        first();
        last();
        follow();
        whateverLettersTheyHave();
    }

    private static void atomsThatAreNoChoices() {
        CHECK.says("Terms", "LAID OUT, its POSITIONS 0, 1, .. are its atoms that are no choices in brackets, from the left;");
        CHECK.due("no atom", CHECK.pattern("").positions(), 0);
        CHECK.due("brackets alone", CHECK.pattern("(()|())").positions(), 0);
        CHECK.due("brackets round an atom", CHECK.pattern("((a))").positions(), 1);
        House x = CHECK.pattern("a(b|[cd])(.|(e))9");
        String[] due = {"a", "b", "cd", Told.LETTERS, "e", "9"};
        CHECK.due("positions", x.positions(), due.length);
        for (int p = 0; p < due.length; p++) {
            CHECK.due("letters of position " + p, Told.letters(x, p), due[p]);
        }
        CHECK.due("sixty of them", CHECK.pattern("a".repeat(60)).positions(), 60);
    }

    private static void copies() {
        CHECK.says("Terms", "a part with {m,n} stands there m times, and then n - m times as one with ?, each one with positions of its own");
        same("a{1,2}", "aa?");
        same("a{2,4}", "aaa?a?");
        same("a{4,5}", "aaaaa?");
        same("(a|b){1,3}", "(a|b)(a|b)?(a|b)?");
        same("(ab*){2,3}c", "(ab*)(ab*)(ab*)?c");
        same("(a{1,2}b){1,2}", "(aa?b)(aa?b)?");
        same("a{1,2}{1,2}", "(aa?)(aa?)?");
        same("a*{1,2}", "a*a*?");
    }

    private static void noneOrJustM() {
        CHECK.says("Terms", "({0,n} n times; {m} is {m,m}).");
        for (int n = 1; n <= 5; n++) {
            CHECK.due("positions of a{0," + n + "}", CHECK.pattern("a{0," + n + "}").positions(), n);
            same("(a|b){0," + n + "}", "(a|b)?".repeat(n));
            same("(ab){" + n + "}", "(ab)".repeat(n));
            same("(ab){" + n + "," + n + "}", "(ab)".repeat(n));
        }
    }

    private static void same(String one, String other) {
        House x = CHECK.pattern(one);
        House y = CHECK.pattern(other);
        CHECK.due("layout of " + one, Told.layout(x), Told.layout(y));
        CHECK.due("letters of " + one, allLetters(one), allLetters(other));
    }

    private static String allLetters(String pattern) {
        StringBuilder all = new StringBuilder();
        Relay relay = new Relay(pattern);
        int size = relay.now().positions();
        for (int p = 0; p < size; p++) {
            for (int letter = 0; letter < 36; letter++) {
                all.append(relay.now().has(p, letter) ? Told.LETTERS.charAt(letter) : '.');
            }
        }
        return all.toString();
    }

    private static void first() {
        CHECK.says("Terms", "FIRST are those with which a word may begin,");
        CHECK.due("of none", Told.firsts(CHECK.pattern("")), "");
        CHECK.due("only the first", Told.firsts(CHECK.pattern("ab")), "0");
        CHECK.due("all", Told.firsts(CHECK.pattern("a?b*c")), "0 1 2");
        CHECK.due("of choices", Told.firsts(CHECK.pattern("ab|cd|")), "0 2");
        CHECK.due("the lowest and the highest", Told.firsts(CHECK.pattern("a".repeat(59) + "|b")), "0 59");
    }

    private static void last() {
        CHECK.says("Terms", "LAST those with which it may end,");
        CHECK.due("of none", Told.lasts(CHECK.pattern("")), "");
        CHECK.due("only the last", Told.lasts(CHECK.pattern("ab")), "1");
        CHECK.due("all", Told.lasts(CHECK.pattern("ab*c?")), "0 1 2");
        CHECK.due("of choices", Told.lasts(CHECK.pattern("ab|cd|")), "1 3");
        CHECK.due("the lowest and the highest", Told.lasts(CHECK.pattern("b|" + "a".repeat(59))), "0 59");
    }

    private static void follow() {
        CHECK.says("Terms", "FOLLOW p those that may come next behind p:");
        CHECK.due("one without another", Told.behind(CHECK.pattern("a")), "0:");
        CHECK.due("itself", Told.behind(CHECK.pattern("a+")), "0:0");
        CHECK.due("next, not later", Told.behind(CHECK.pattern("abc")), "0:1 1:2 2:");
        CHECK.due("later, if what is between may be none", Told.behind(CHECK.pattern("ab?c")), "0:1,2 1:2 2:");
        CHECK.due("round", Told.behind(CHECK.pattern("(ab)*c")), "0:1 1:0,2 2:");
        House x = CHECK.pattern("(" + "a".repeat(60) + ")*");
        CHECK.due("from the highest to the lowest", x.follows(59, 0), true);
        CHECK.due("from the lowest to the highest", x.follows(0, 59), false);
        CHECK.due("from the last but one to the highest", x.follows(58, 59), true);
    }

    private static void whateverLettersTheyHave() {
        CHECK.says("Terms", "all by rows of positions that the pattern, as it is laid out, allows, whatever letters they have.");
        CHECK.due("one without letters", Told.layout(CHECK.pattern("[^a-9]")), "0 / 0 / 0:");
        CHECK.due("one between two", Told.layout(CHECK.pattern("a[^a-9]b")), "0 / 2 / 0:1 1:2 2:");
        CHECK.due("one or another", Told.layout(CHECK.pattern("[^a-9]*|b")), "empty or 0 1 / 0 1 / 0:0 1:");
        CHECK.due("two with the same letter", Told.layout(CHECK.pattern("a|a")), "0 1 / 0 1 / 0: 1:");
    }
}

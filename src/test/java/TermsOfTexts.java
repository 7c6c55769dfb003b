/** "Terms": the text and its finds. */
final class TermsOfTexts {
    private static final Check CHECK = SentencesTest.CHECK;
    private static final String FINDS = "Its FINDS: from place 0 on, the least place at which a word"
            + " (not without letters) of the pattern stands, and of such words there the longest;"
            + " then from behind it on, and so on.";

    private TermsOfTexts() {
    }

    static void run() {
        atMost200Letters();
        fromPlace0();
        notWithoutLetters();
        ofThePattern();
        theLongest();
        fromBehindItOn();
    }

    private static void atMost200Letters() {
        CHECK.says("Terms", "THE TEXT is a row of at most 200 letters.");
        House x = CHECK.pattern("ba*c");
        CHECK.text(x, "b" + "a".repeat(198));
        CHECK.due("199 letters are no word", x.whole(), false);
        CHECK.due("letter 200", x.feed('c', 1), 200);
        CHECK.due("the first and the last of 200 are there", x.whole(), true);
        CHECK.noState("letter 201", () -> x.feed('c', 1));
        CHECK.due("200 are there still", x.whole(), true);
        CHECK.due("200 are cleared", x.clear(), 200);
        CHECK.word("", "", true);
    }

    private static void fromPlace0() {
        CHECK.says("Terms", FINDS);
        CHECK.found("a", "ab", "0-1");
        CHECK.found("a", "ba", "1-2");
        CHECK.found("a", "b".repeat(199) + "a", "199-200");
        CHECK.found("ab|bcde", "abcde", "0-2");
        CHECK.found("bcd|c", "abcde", "1-4");
        CHECK.found("abc|b", "abab", "1-2 3-4");
        CHECK.found("a", "", "");
    }

    private static void notWithoutLetters() {
        CHECK.says("Terms", FINDS);
        CHECK.found("", "ab", "");
        CHECK.found("()*", "ab", "");
        CHECK.found("a*", "", "");
        CHECK.found("a*", "bbb", "");
        CHECK.found("a*", "baab", "1-3");
        CHECK.found("a?", "aab", "0-1 1-2");
    }

    private static void ofThePattern() {
        CHECK.says("Terms", FINDS);
        CHECK.found("[^a-9]", "ab0", "");
        CHECK.found("abc", "ababcab", "2-5");
        CHECK.found("ab", "aaa", "");
        CHECK.found("ab", "a", "");
    }

    private static void theLongest() {
        CHECK.says("Terms", FINDS);
        CHECK.found("a|ab|abc", "abcd", "0-3");
        CHECK.found("abc|ab|a", "abcd", "0-3");
        CHECK.found("a(b*c)?", "abbbc", "0-5");
        CHECK.found("a(b*c)?", "abbbd", "0-1");
        CHECK.found("a|a{3}|a{5}", "aaaa", "0-3 3-4");
        CHECK.found(".*", "a".repeat(200), "0-200");
        CHECK.found("a.*b", "a".repeat(198) + "bc", "0-199");
        CHECK.found("a{5}{4}{3}", "a".repeat(200), "0-60 60-120 120-180");
    }

    private static void fromBehindItOn() {
        CHECK.says("Terms", FINDS);
        CHECK.found("aa", "aaaa", "0-2 2-4");
        CHECK.found("aa", "aaaaa", "0-2 2-4");
        CHECK.found("aba", "ababa", "0-3");
        CHECK.found("ab|ba", "abab", "0-2 2-4");
        CHECK.found("a", "abaa", "0-1 2-3 3-4");
        House x = CHECK.pattern("..");
        CHECK.text(x, "a".repeat(199));
        CHECK.due("finds of two in 199", x.finds(), 99);
        CHECK.due("the last one", x.find(98, false) + "-" + x.find(98, true), "196-198");
    }
}

/** Promises 10 to 14: feed, clear, whole, finds and find. */
public final class TextTest {
    private static final Check CHECK = new Check();

    public static void main(String[] args) {
        feeding();
        room();
        clearing();
        wholes();
        found();
        findsFollowWhatChanges();
        wrongFinds();
        CHECK.end();
    }

    private static void feeding() {
        House x = new House();
        CHECK.due("feed before there is a pattern", x.feed(Check.pack("az09"), 4), 4);
        CHECK.pattern(x, "az09");
        CHECK.due("the text is there", x.whole(), true);
        for (int n : new int[] {0, -1, 9, Integer.MIN_VALUE, Integer.MAX_VALUE}) {
            CHECK.noArgument("feed with n " + n, () -> x.feed(Check.pack("aaaaaaaa"), n));
        }
        for (int c = 0; c < 256; c++) {
            boolean letter = c >= 'a' && c <= 'z' || c >= '0' && c <= '9';
            long w = Check.pack("a" + (char) c + "b");
            House y = new House();
            if (letter) {
                CHECK.due("feed of character " + c, y.feed(w, 3), 3);
            } else {
                CHECK.noArgument("feed of character " + c, () -> y.feed(w, 3));
                CHECK.due("nothing was fed", y.clear(), 0);
            }
        }
        CHECK.noArgument("the last of eight is no letter", () -> x.feed(Check.pack("aaaaaaaA"), 8));
        CHECK.due("nothing has changed", x.whole(), true);
        CHECK.due("only n characters count", x.feed(Check.pack("b|*"), 1), 5);
        CHECK.pattern(x, "az09b");
        CHECK.due("lowest byte first", x.whole(), true);
    }

    private static void room() {
        House x = CHECK.pattern("a*b");
        CHECK.text(x, "a".repeat(197));
        CHECK.noState("four with room for three", () -> x.feed(Check.pack("aaab"), 4));
        CHECK.noArgument("a character that is no letter comes first", () -> x.feed(Check.pack("aa.b"), 4));
        CHECK.noArgument("a wrong n comes first", () -> x.feed(Check.pack("aaab"), 9));
        CHECK.due("nothing has changed", x.finds(), 0);
        CHECK.due("three with room for three", x.feed(Check.pack("aab"), 3), 200);
        CHECK.due("finds", Check.finds(x), "0-200");
        CHECK.due("whole", x.whole(), true);
        CHECK.noState("no room", () -> x.feed('a', 1));
        CHECK.noArgument("no room and a wrong character", () -> x.feed('A', 1));
        CHECK.pattern(x, ".");
        CHECK.due("two hundred finds", x.finds(), 200);
        CHECK.due("the last one begins", x.find(199, false), 199);
        CHECK.due("the last one ends", x.find(199, true), 200);
    }

    private static void clearing() {
        House x = CHECK.pattern("a*");
        CHECK.due("clear of nothing", x.clear(), 0);
        CHECK.text(x, "aaab");
        CHECK.due("whole", x.whole(), false);
        CHECK.due("clear", x.clear(), 4);
        CHECK.due("the text is empty", x.whole(), true);
        CHECK.due("no finds", x.finds(), 0);
        CHECK.due("clear again", x.clear(), 0);
        CHECK.due("feed", x.feed(Check.pack("aa"), 2), 2);
        CHECK.due("what was cleared is gone", x.whole(), true);
    }

    private static void wholes() {
        CHECK.word("", "", true);
        CHECK.word("", "a", false);
        CHECK.word("a", "", false);
        CHECK.word("a*", "", true);
        CHECK.word("a", "a", true);
        CHECK.word("a", "aa", false);
        CHECK.word("ab|cd", "cd", true);
        CHECK.word("ab|cd", "ad", false);
        CHECK.word("a(b|c)*d", "abcbcd", true);
        CHECK.word("a(b|c)*d", "abcbc", false);
        CHECK.word("(a|b)*abb", "ababb", true);
        CHECK.word("a{2,4}", "a", false);
        CHECK.word("a{2,4}", "aa", true);
        CHECK.word("a{2,4}", "aaaa", true);
        CHECK.word("a{2,4}", "aaaaa", false);
        CHECK.word("(ab{2}){2}", "abbabb", true);
        CHECK.word("a{0,3}b", "b", true);
        CHECK.word(".[^a]", "aa", false);
        CHECK.word(".[^a]", "a0", true);
        CHECK.word("[^a-z0-9]*", "", true);
        CHECK.word("[^a-z0-9]*", "a", false);
        CHECK.word("(.*){5}{4}{3}", "abc012", true);
        CHECK.word("[z-0]{2}", "z0", true);
    }

    private static void found() {
        CHECK.found("a", "", "");
        CHECK.found("a", "bab", "1-2");
        CHECK.found("a*", "baab", "1-3");
        CHECK.found("", "ab", "");
        CHECK.found("a|ab|abc", "abcabxaab", "0-3 3-5 6-7 7-9");
        CHECK.found("ab|bcd", "abcd", "0-2");
        CHECK.found("abc|b", "abab", "1-2 3-4");
        CHECK.found("aba", "ababa", "0-3");
        CHECK.found("aa", "aaaaa", "0-2 2-4");
        CHECK.found("a(.*b)?", "aaabc", "0-4");
        CHECK.found("(a|b)*abb", "ababbabbaabbab", "0-12");
        CHECK.found(".*", "xyz", "0-3");
        CHECK.found(".", "xyz", "0-1 1-2 2-3");
        CHECK.found("[0-9]+", "a12b3", "1-3 4-5");
        CHECK.found("(ab){2,3}", "abababababab", "0-6 6-12");
        CHECK.found("a{5}{5}", "a".repeat(60), "0-25 25-50");
        CHECK.found("ab*c|b", "abbb", "1-2 2-3 3-4");
        CHECK.found("[^a-z0-9]", "abc", "");
    }

    private static void findsFollowWhatChanges() {
        House x = CHECK.pattern("aa*");
        CHECK.text(x, "aaabaa");
        CHECK.due("finds", Check.finds(x), "0-3 4-6");
        x.feed(Check.pack("ac"), 2);
        CHECK.due("after feed", Check.finds(x), "0-3 4-7");
        CHECK.pattern(x, "ab");
        CHECK.due("after read", Check.finds(x), "2-4");
        CHECK.due("a fault", Check.readAll(x, "b("), 2);
        CHECK.due("after a fault", Check.finds(x), "2-4");
        x.clear();
        CHECK.due("after clear", Check.finds(x), "");
    }

    private static void wrongFinds() {
        House x = CHECK.pattern("a");
        CHECK.text(x, "aba");
        CHECK.due("find", x.find(1, false), 2);
        for (int i : new int[] {-1, 2, 200, Integer.MIN_VALUE, Integer.MAX_VALUE}) {
            CHECK.noIndex("find " + i, () -> x.find(i, false));
            CHECK.noIndex("end of find " + i, () -> x.find(i, true));
        }
        x.clear();
        CHECK.noIndex("find in no text", () -> x.find(0, false));
    }
}

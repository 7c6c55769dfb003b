/** Promises 10 to 14: feed, clear, whole, finds and find. */
final class Promises10To14 {
    private static final Check CHECK = SentencesTest.CHECK;

    private Promises10To14() {
    }

    static void run() {
        promise10NLettersMore();
        promise10TheLowestByteFirst();
        promise10HowManyItHas();
        promise10NIsNot1To8();
        promise10NoLetter();
        promise10NoRoom();
        promise11TheTextIsEmpty();
        promise11HowManyItHad();
        promise12TheWholeText();
        promise12NoPattern();
        promise13HowManyFinds();
        promise13NoPattern();
        promise14WhereItBegins();
        promise14ThePlaceBehindIt();
        promise14NoPattern();
        promise14NoSuchFind();
    }

    private static void promise10NLettersMore() {
        CHECK.says("Promise 10", "n letters more of the text, told as characters,");
        for (int n = 1; n <= 8; n++) {
            House x = CHECK.pattern("a*");
            long others = n == 8 ? 0 : -1L << 8 * n;
            CHECK.due("feed " + n, x.feed(Check.pack("aaaaaaaa") & ~others | others, n), n);
            CHECK.due("what is above is not fed", x.whole(), true);
            CHECK.due("more behind what is there", x.feed('b', 1), n + 1);
            CHECK.due("whole", x.whole(), false);
            CHECK.due("finds", Check.finds(x), "0-" + n);
        }
        House y = CHECK.pattern("az09");
        CHECK.due("feed", y.feed(Check.pack("az09"), 4), 4);
        CHECK.due("the least and the greatest letters", y.whole(), true);
    }

    private static void promise10TheLowestByteFirst() {
        CHECK.says("Promise 10", "the lowest byte of w first:");
        House x = CHECK.pattern("abcdefgh");
        x.feed(0x6867666564636261L, 8);
        CHECK.due("whole", x.whole(), true);
    }

    private static void promise10HowManyItHas() {
        CHECK.says("Promise 10", "how many it has.");
        House x = new House();
        for (int i = 1; i <= 200; i++) {
            CHECK.due("feed", x.feed('a', 1), i);
        }
        House y = new House();
        for (int i = 8; i <= 200; i += 8) {
            CHECK.due("feed", y.feed(Check.pack("abcdefgh"), 8), i);
        }
        y.clear();
        CHECK.due("feed behind clear", y.feed(Check.pack("aaa"), 3), 3);
    }

    private static void promise10NIsNot1To8() {
        CHECK.says("Promise 10", "IllegalArgumentException: n is not 1 .. 8,");
        House x = new House();
        for (int n : new int[] {Integer.MIN_VALUE, -8, -1, 0, 9, 16, 64, 257, Integer.MAX_VALUE}) {
            CHECK.noArgument("feed with n " + n, () -> x.feed(Check.pack("aaaaaaaa"), n));
        }
        CHECK.due("nothing was fed; n is 1", x.feed('a', 1), 1);
        CHECK.due("n is 8", x.feed(Check.pack("aaaaaaaa"), 8), 9);
    }

    private static void promise10NoLetter() {
        CHECK.says("Promise 10", "or a character is no letter;");
        for (int c = 0; c < 256; c++) {
            House x = new House();
            char character = (char) c;
            if (Told.LETTERS.indexOf(character) >= 0) {
                CHECK.due("feed of character " + c, x.feed(character, 1), 1);
            } else {
                CHECK.noArgument("feed of character " + c, () -> x.feed(character, 1));
            }
        }
        for (int at = 0; at < 8; at++) {
            House x = new House();
            String some = "a".repeat(at) + "A" + "a".repeat(7 - at);
            CHECK.noArgument("feed of " + some, () -> x.feed(Check.pack(some), 8));
            CHECK.due("nothing was fed of " + some, x.clear(), 0);
            if (at > 0) {
                CHECK.due("those before it of " + some, x.feed(Check.pack(some), at), at);
            }
        }
    }

    private static void promise10NoRoom() {
        CHECK.says("Promise 10", "IllegalStateException.");
        for (int n = 1; n <= 8; n++) {
            int count = n;
            House x = CHECK.pattern("a*");
            CHECK.text(x, "a".repeat(200 - n));
            CHECK.due("just room for " + n, x.feed(Check.pack("aaaaaaaa"), n), 200);
            House y = CHECK.pattern("a*");
            CHECK.text(y, "a".repeat(201 - n));
            CHECK.noState("one too few for " + n, () -> y.feed(Check.pack("bbbbbbbb"), count));
            CHECK.due("none of them was fed", y.whole(), true);
            CHECK.due("clear", y.clear(), 201 - n);
        }
    }

    private static void promise11TheTextIsEmpty() {
        CHECK.says("Promise 11", "The text is empty:");
        House x = CHECK.pattern("a*");
        CHECK.text(x, "ab".repeat(100));
        CHECK.due("finds", x.finds(), 100);
        x.clear();
        CHECK.due("finds", x.finds(), 0);
        CHECK.due("whole", x.whole(), true);
        CHECK.noIndex("find", () -> x.find(0, false));
        CHECK.due("there is room for all again", x.feed(Check.pack("aaaaaaaa"), 8), 8);
        CHECK.due("whole", x.whole(), true);
        CHECK.due("the pattern stays", x.positions(), 1);
    }

    private static void promise11HowManyItHad() {
        CHECK.says("Promise 11", "how many letters it had.");
        for (int length : new int[] {0, 1, 8, 9, 199, 200}) {
            House x = new House();
            CHECK.text(x, "a".repeat(length));
            CHECK.due("clear", x.clear(), length);
            CHECK.due("clear again", x.clear(), 0);
        }
    }

    private static void promise12TheWholeText() {
        CHECK.says("Promise 12", "Whether the whole text is a word of the pattern.");
        CHECK.word("", "", true);
        CHECK.word("a", "", false);
        CHECK.word("a*", "", true);
        CHECK.word("", "a", false);
        CHECK.word("ab", "a", false);
        CHECK.word("ab", "ab", true);
        CHECK.word("ab", "abc", false);
        CHECK.word("ab", "cab", false);
        CHECK.word("[^a-9]*", "", true);
        CHECK.word(".*9", "a".repeat(199) + "9", true);
        CHECK.word(".*9", "a".repeat(198) + "9a", false);
        CHECK.word("(a{5}{5})*", "a".repeat(200), true);
        CHECK.word("(a{5}{5})*", "a".repeat(199), false);
    }

    private static void promise12NoPattern() {
        CHECK.says("Promise 12", "IllegalStateException.");
        House x = new House();
        CHECK.noState("without a text", () -> x.whole());
        x.feed('a', 1);
        CHECK.noState("with a text", () -> x.whole());
        Check.readAll(x, "a)");
        CHECK.noState("behind a fault", () -> x.whole());
    }

    private static void promise13HowManyFinds() {
        CHECK.says("Promise 13", "How many finds the text has.");
        count("a", "", 0);
        count("a", "b", 0);
        count("a", "a", 1);
        count("a", "a".repeat(199), 199);
        count("a", "a".repeat(200), 200);
        count("a*", "a".repeat(200), 1);
        count("a", "ab".repeat(100), 100);
        count("", "a".repeat(200), 0);
        House x = CHECK.pattern("a");
        CHECK.text(x, "ab");
        CHECK.due("finds", x.finds(), 1);
        x.feed(Check.pack("aa"), 2);
        CHECK.due("finds with two letters more", x.finds(), 3);
        CHECK.noState("no room", () -> {
            for (int i = 0; i < 25; i++) {
                x.feed(Check.pack("bbbbbbbb"), 8);
            }
            return 0;
        });
        CHECK.due("finds with a text that is full but for four", x.finds(), 3);
        CHECK.pattern(x, "b+");
        CHECK.due("finds of another pattern", x.finds(), 2);
        x.clear();
        CHECK.due("finds of no text", x.finds(), 0);
    }

    private static void count(String pattern, String text, int due) {
        House x = CHECK.pattern(pattern);
        CHECK.text(x, text);
        CHECK.due("finds of " + pattern + " in " + text, x.finds(), due);
        CHECK.due("and again", x.finds(), due);
    }

    private static void promise13NoPattern() {
        CHECK.says("Promise 13", "IllegalStateException.");
        House x = new House();
        CHECK.noState("without a text", () -> x.finds());
        x.feed('a', 1);
        CHECK.noState("with a text", () -> x.finds());
        Check.readAll(x, "a)");
        CHECK.noState("behind a fault", () -> x.finds());
        CHECK.pattern(x, "a");
        CHECK.due("what was fed before is there", x.finds(), 1);
    }

    private static House withFinds() {
        House x = CHECK.pattern("ab*");
        CHECK.text(x, "abb" + "c".repeat(195) + "ab");
        return x;
    }

    private static void promise14WhereItBegins() {
        CHECK.says("Promise 14", "Where find i begins (ends = false),");
        CHECK.due("at the beginning", withFinds().find(0, false), 0);
        CHECK.due("near the end", withFinds().find(1, false), 198);
    }

    private static void promise14ThePlaceBehindIt() {
        CHECK.says("Promise 14", "or the place behind it.");
        CHECK.due("of the first", withFinds().find(0, true), 3);
        CHECK.due("of the last, at the end", withFinds().find(1, true), 200);
    }

    private static void promise14NoPattern() {
        CHECK.says("Promise 14", "IllegalStateException (first);");
        House x = new House();
        x.feed('a', 1);
        CHECK.noState("a find", () -> x.find(0, false));
        CHECK.noState("and no find", () -> x.find(-1, true));
        CHECK.noState("and no find", () -> x.find(200, true));
        Check.readAll(x, "a)");
        CHECK.noState("behind a fault", () -> x.find(0, true));
    }

    private static void promise14NoSuchFind() {
        CHECK.says("Promise 14", "IndexOutOfBoundsException.");
        House x = withFinds();
        for (int i : new int[] {Integer.MIN_VALUE, -1, 2, 3, 199, 200, Integer.MAX_VALUE}) {
            CHECK.noIndex("find " + i, () -> x.find(i, false));
            CHECK.noIndex("end of find " + i, () -> x.find(i, true));
        }
        House none = CHECK.pattern("a");
        CHECK.noIndex("in a text without letters", () -> none.find(0, false));
        CHECK.text(none, "bbb");
        CHECK.noIndex("there is none", () -> none.find(0, false));
        House fewer = CHECK.pattern("a");
        CHECK.text(fewer, "aaa");
        CHECK.due("find 2", fewer.find(2, false), 2);
        CHECK.pattern(fewer, "a+");
        CHECK.noIndex("there was one before", () -> fewer.find(2, false));
    }
}

/** Promises 1 to 4: a new object, type, read and place. */
final class Promises01To04 {
    private static final Check CHECK = SentencesTest.CHECK;
    private static final String[] FAULTS = {"", "a)", "a(b|", "a{6}", "a".repeat(61), "a(((((((((", "ab[d-c]"};
    private static final int[] PLACES = {PatternHouse.NONE, 1, 4, 1, 60, 9, 3};

    private Promises01To04() {
    }

    static void run() {
        promise1NoPattern();
        promise1NothingIsTyped();
        promise1TheTextIsEmpty();
        promise2NCharactersMore();
        promise2TheLowestByteFirst();
        promise2HowManyThereAre();
        promise2NIsNot1To8();
        promise2NoRoom();
        promise3WhatWasTypedIsRead();
        promise3NothingIsTypedThen();
        promise3ItIsThePattern();
        promise3TheOneBeforeStays();
        promise3NoneBeforeStaysNone();
        promise4TheCharacterAtWhichItFailed();
        promise4NoneIfItDidNot();
        promise4NoneIfThereWasNone();
    }

    private static void promise1NoPattern() {
        CHECK.says("Promise 1", "No pattern;");
        House x = new House();
        CHECK.noState("positions", () -> x.positions());
        CHECK.noState("states", () -> x.states());
        CHECK.noState("keep", () -> x.keep());
        CHECK.noState("differ", () -> x.differ());
        CHECK.noIndex("letter", () -> x.letter(0));
        x.type('a', 1);
        x.feed('a', 1);
        CHECK.noState("positions with a character typed", () -> x.positions());
        CHECK.noState("finds with a letter fed", () -> x.finds());
    }

    private static void promise1NothingIsTyped() {
        CHECK.says("Promise 1", "nothing is typed;");
        CHECK.due("type", new House().type('a', 1), 1);
        House x = new House();
        CHECK.due("read of nothing", x.read(), 0);
        CHECK.due("positions", x.positions(), 0);
        House other = new House();
        other.type('a', 1);
        CHECK.due("what is typed elsewhere is not typed here", new House().type('a', 1), 1);
    }

    private static void promise1TheTextIsEmpty() {
        CHECK.says("Promise 1", "the text is empty.");
        CHECK.due("clear", new House().clear(), 0);
        CHECK.due("feed", new House().feed('a', 1), 1);
        House x = CHECK.pattern("a*");
        CHECK.due("whole", x.whole(), true);
        CHECK.due("finds", x.finds(), 0);
    }

    private static void promise2NCharactersMore() {
        CHECK.says("Promise 2", "n characters more of a pattern,");
        for (int n = 1; n <= 8; n++) {
            House x = new House();
            long others = n == 8 ? 0 : -1L << 8 * n;
            CHECK.due("type " + n, x.type(Check.pack("aaaaaaaa") & ~others | others, n), n);
            CHECK.due("what is above is not typed", x.read(), 0);
            CHECK.due("positions", x.positions(), n);
        }
        House y = new House();
        y.type('a', 1);
        CHECK.due("more behind what is there", y.type(Check.pack("bc"), 2), 3);
        y.read();
        CHECK.due("letters", Told.letters(y, 0) + Told.letters(y, 1) + Told.letters(y, 2), "abc");
        House z = new House();
        CHECK.due("any eight bytes", z.type(-1L, 8), 8);
        CHECK.due("any eight bytes", z.type(0L, 8), 16);
        CHECK.due("any eight bytes", z.type(Long.MIN_VALUE, 8), 24);
    }

    private static void promise2TheLowestByteFirst() {
        CHECK.says("Promise 2", "the lowest byte of w first:");
        House x = new House();
        x.type(0x6867666564636261L, 8);
        CHECK.due("read", x.read(), 0);
        for (int p = 0; p < 8; p++) {
            CHECK.due("letters of position " + p, Told.letters(x, p), Told.LETTERS.substring(p, p + 1));
        }
        House y = new House();
        y.type(0xff61616161616161L, 8);
        CHECK.due("the highest byte", y.read(), 1);
        CHECK.due("comes last", y.place(), 7);
    }

    private static void promise2HowManyThereAre() {
        CHECK.says("Promise 2", "how many there are.");
        House x = new House();
        for (int i = 1; i <= 200; i++) {
            CHECK.due("type", x.type('|', 1), i);
        }
        House y = new House();
        for (int i = 8; i <= 200; i += 8) {
            CHECK.due("type", y.type(Check.pack("||||||||"), 8), i);
        }
        y.read();
        CHECK.due("type after read", y.type(Check.pack("aaa"), 3), 3);
    }

    private static void promise2NIsNot1To8() {
        CHECK.says("Promise 2", "IllegalArgumentException: n is not 1 .. 8;");
        House x = new House();
        for (int n : new int[] {Integer.MIN_VALUE, -8, -1, 0, 9, 16, 64, 257, Integer.MAX_VALUE}) {
            CHECK.noArgument("type with n " + n, () -> x.type(Check.pack("aaaaaaaa"), n));
        }
        CHECK.due("nothing was typed; n is 1", x.type('a', 1), 1);
        CHECK.due("n is 8", x.type(Check.pack("aaaaaaaa"), 8), 9);
    }

    private static void promise2NoRoom() {
        CHECK.says("Promise 2", "IllegalStateException.");
        for (int n = 1; n <= 8; n++) {
            int count = n;
            House x = new House();
            Check.typeAll(x, "|".repeat(200 - n));
            CHECK.due("just room for " + n, x.type(Check.pack("||||||||"), n), 200);
            House y = new House();
            Check.typeAll(y, "|".repeat(201 - n));
            CHECK.noState("one too few for " + n, () -> y.type(Check.pack("aaaaaaaa"), count));
            CHECK.due("read", y.read(), 0);
            CHECK.due("none of them was typed", y.positions(), 0);
        }
    }

    private static void promise3WhatWasTypedIsRead() {
        CHECK.says("Promise 3", "What was typed is read");
        House x = new House();
        CHECK.due("a pattern of no character", x.read(), 0);
        CHECK.due("it means the word without letters", Told.layout(x), "empty or  /  / ");
        CHECK.due("a pattern of one character", Check.readAll(x, "a"), 0);
        CHECK.due("layout", Told.layout(x), "0 / 0 / 0:");
        CHECK.due("a pattern of 200", Check.readAll(x, "()".repeat(99) + "ab"), 0);
        CHECK.due("layout", Told.layout(x), "0 / 1 / 0:1 1:");
    }

    private static void promise3NothingIsTypedThen() {
        CHECK.says("Promise 3", "(and nothing is typed then):");
        House x = CHECK.pattern("ab");
        CHECK.due("read again", x.read(), 0);
        CHECK.due("it was a pattern of no character", x.positions(), 0);
        for (int fault = 1; fault <= 6; fault++) {
            House y = new House();
            CHECK.due("fault", Check.readAll(y, FAULTS[fault]), fault);
            CHECK.due("read behind fault " + fault, y.read(), 0);
            CHECK.due("it was a pattern of no character", y.positions(), 0);
            Check.readAll(y, FAULTS[fault]);
            CHECK.due("type behind fault " + fault, y.type('a', 1), 1);
        }
        House full = new House();
        Check.typeAll(full, "|".repeat(200));
        full.read();
        CHECK.due("there is room again", full.type('a', 1), 1);
    }

    private static void promise3ItIsThePattern() {
        CHECK.says("Promise 3", "0, and it is the pattern;");
        House x = CHECK.pattern("ab|c");
        CHECK.text(x, "abc");
        CHECK.due("finds", Check.finds(x), "0-2 2-3");
        CHECK.due("states", x.states(), 5);
        CHECK.pattern(x, "b*");
        CHECK.due("layout", Told.layout(x), "empty or 0 / 0 / 0:0");
        CHECK.due("finds", Check.finds(x), "1-2");
        CHECK.due("states", x.states(), 3);
        CHECK.due("classes", x.classes(), 2);
        CHECK.due("the text stays", x.clear(), 3);
    }

    private static void promise3TheOneBeforeStays() {
        CHECK.says("Promise 3", "or the FAULT, and the one before stays.");
        String due = told(withAll());
        for (int fault = 1; fault <= 6; fault++) {
            House x = withAll();
            CHECK.due("fault of " + FAULTS[fault], Check.readAll(x, FAULTS[fault]), fault);
            CHECK.due("all that is told behind fault " + fault, told(x), due);
            House y = withAll();
            told(y);
            Check.readAll(y, FAULTS[fault]);
            CHECK.due("all that is told again behind fault " + fault, told(y), due);
        }
    }

    private static House withAll() {
        House x = CHECK.pattern("(ab)*");
        x.keep();
        CHECK.pattern(x, "(ab)*c?");
        CHECK.text(x, "ababcxabb");
        return x;
    }

    private static String told(House x) {
        return Told.layout(x) + Told.letters(x, 2) + x.whole() + Check.finds(x) + x.states() + x.next(0, 2) + x.good(2)
                + x.classes() + x.differ() + x.letter(0);
    }

    private static void promise3NoneBeforeStaysNone() {
        CHECK.says("Promise 3", "or the FAULT, and the one before stays.");
        for (int fault = 1; fault <= 6; fault++) {
            House x = new House();
            CHECK.due("fault of " + FAULTS[fault], Check.readAll(x, FAULTS[fault]), fault);
            CHECK.noState("positions", () -> x.positions());
            CHECK.noState("whole", () -> x.whole());
            CHECK.noState("keep", () -> x.keep());
        }
    }

    private static void promise4TheCharacterAtWhichItFailed() {
        CHECK.says("Promise 4", "The character at which the latest read() failed;");
        for (int fault = 1; fault <= 6; fault++) {
            CHECK.fault(FAULTS[fault], fault, PLACES[fault]);
        }
        CHECK.fault("*" + "a".repeat(59), 1, 0);
        CHECK.fault("|".repeat(199) + ")", 1, 199);
        CHECK.fault("(" + "|".repeat(199), 2, 200);
        House x = new House();
        Check.readAll(x, "a)");
        CHECK.due("place", x.place(), 1);
        CHECK.due("place again", x.place(), 1);
        Check.typeAll(x, "abc)");
        x.feed('a', 1);
        x.clear();
        CHECK.due("it stays until the next read", x.place(), 1);
        CHECK.due("read", x.read(), 1);
        CHECK.due("the latest counts", x.place(), 3);
    }

    private static void promise4NoneIfItDidNot() {
        CHECK.says("Promise 4", "NONE if it did not,");
        House x = CHECK.pattern("a");
        CHECK.due("place", x.place(), PatternHouse.NONE);
        for (int fault = 1; fault <= 6; fault++) {
            CHECK.due("fault", Check.readAll(x, FAULTS[fault]), fault);
            CHECK.due("place", x.place(), PLACES[fault]);
            CHECK.due("read of nothing", x.read(), 0);
            CHECK.due("place behind it", x.place(), PatternHouse.NONE);
        }
    }

    private static void promise4NoneIfThereWasNone() {
        CHECK.says("Promise 4", "or there was none.");
        House x = new House();
        CHECK.due("place", x.place(), PatternHouse.NONE);
        x.type(')', 1);
        CHECK.due("place with a character typed", x.place(), PatternHouse.NONE);
    }
}

/** "What it is": for how many calls an object is used. */
final class CallsSentences {
    private static final Check CHECK = SentencesTest.CHECK;
    private static final String SENTENCE =
            "An object is used for at most 512 calls after it has been made; what later calls answer is free.";
    private static final String PLAIN = "a+|b{5}{2}b";
    /** As the plain one, but without the rows of a whose length can be parted by 2, 11 and 13. */
    private static final String DEAR =
            "(aa)*a|(a{5}{2}a)*a{1,5}a{0,5}|(a{5}{2}aaa)*a{1,5}a{0,5}a{0,2}|b{5}{2}b";

    private CallsSentences() {
    }

    static void run() {
        CHECK.says("What it is", SENTENCE);
        eachCallAgainAndAgain();
        typingAndReading();
        feedingAndClearing();
        dearCalls();
        refusedCalls();
    }

    private static void eachCallAgainAndAgain() {
        again("place", 2, x -> x.place());
        again("positions", 4, x -> x.positions());
        again("empty", false, x -> x.empty());
        again("is", true, x -> x.is(0, 0));
        again("follows", true, x -> x.follows(1, 3));
        again("has", true, x -> x.has(3, 3));
        again("whole", false, x -> x.whole());
        again("finds", 2, x -> x.finds());
        again("find", 7, x -> x.find(1, true));
        again("states", 6, x -> x.states());
        again("next", 1, x -> x.next(0, 0));
        again("good", true, x -> x.good(5));
        again("classes", 4, x -> x.classes());
        again("differ", 2, x -> x.differ());
        again("letter", 3, x -> x.letter(1));
        again("keep", 0, x -> x.keep());
    }

    private interface Call {
        Object on(House x);
    }

    private static void again(String name, Object due, Call call) {
        House x = CHECK.pattern("a(b|c)d");
        x.keep();
        CHECK.pattern(x, "a(b|c)*d");
        CHECK.text(x, "adxabcd");
        CHECK.due("differ", x.differ(), 2);
        CHECK.due("fault", Check.readAll(x, "(a"), 2);
        while (x.callsLeft() > 0) {
            int left = x.callsLeft();
            CHECK.due(name + " with " + left + " calls left", call.on(x), due);
        }
    }

    private static void typingAndReading() {
        House x = new House();
        for (int i = 0; i < 256; i++) {
            CHECK.due("type", x.type('a', 1), 1);
            CHECK.due("read", x.read(), 0);
        }
        CHECK.due("calls left", x.callsLeft(), 0);
        House y = new House();
        for (int i = 0; i < 200; i++) {
            CHECK.due("type", y.type('|', 1), i + 1);
        }
        for (int i = 0; i < 311; i++) {
            CHECK.noState("no room", () -> y.type('|', 1));
        }
        CHECK.due("call 512 reads 200 characters", y.read(), 0);
    }

    private static void feedingAndClearing() {
        House x = new House();
        for (int round = 0; round < 2; round++) {
            for (int i = 0; i < 200; i++) {
                CHECK.due("feed", x.feed('a', 1), i + 1);
            }
            CHECK.due("clear", x.clear(), 200);
        }
        for (int i = 0; i < 55; i++) {
            CHECK.due("feed", x.feed('a', 1), 1);
            CHECK.due("clear", x.clear(), 1);
        }
        CHECK.due("calls left", x.callsLeft(), 0);
    }

    /** A pattern of many states is read, counted and told apart by a long word, until the calls end. */
    private static void dearCalls() {
        House x = CHECK.pattern(PLAIN);
        x.keep();
        while (x.callsLeft() > 40) {
            CHECK.pattern(x, DEAR);
            CHECK.due("states", x.states(), 299);
            CHECK.due("classes", x.classes(), 299);
            CHECK.due("differ", x.differ(), 286);
            CHECK.due("its last letter", x.letter(285), 0);
            CHECK.pattern(x, PLAIN);
            CHECK.due("differ", x.differ(), PatternHouse.NONE);
            x.keep();
        }
        while (x.callsLeft() > 0) {
            CHECK.due("differ", x.differ(), PatternHouse.NONE);
        }
    }

    private static void refusedCalls() {
        House x = CHECK.pattern("ab");
        while (x.callsLeft() > 4) {
            CHECK.noIndex("is", () -> x.is(2, 0));
            CHECK.noArgument("type", () -> x.type('a', 0));
            CHECK.noState("differ", () -> x.differ());
        }
        while (x.callsLeft() > 0) {
            CHECK.due("positions", x.positions(), 2);
        }
    }
}

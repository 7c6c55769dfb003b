/** Promises 1 to 4: a new object, type, read and place, with every fault. */
public final class ReadingTest {
    private static final Check CHECK = new Check();

    public static void main(String[] args) {
        newObject();
        typing();
        reading();
        charactersThatCannotBeThere();
        endsTooSoon();
        times();
        tooManyPositions();
        brackets();
        lettersWrongWayRound();
        faultsInTheirOrder();
        nothingIsLeftOfAFault();
        CHECK.end();
    }

    private static void newObject() {
        House x = new House();
        CHECK.due("place", x.place(), PatternHouse.NONE);
        CHECK.noState("positions", () -> x.positions());
        CHECK.noState("empty", () -> x.empty());
        CHECK.noState("is", () -> x.is(0, 0));
        CHECK.noState("is, all wrong", () -> x.is(-1, 7));
        CHECK.noState("follows", () -> x.follows(-1, 0));
        CHECK.noState("has", () -> x.has(0, 99));
        CHECK.noState("whole", () -> x.whole());
        CHECK.noState("finds", () -> x.finds());
        CHECK.noState("find", () -> x.find(-1, true));
        CHECK.noState("states", () -> x.states());
        CHECK.noState("next", () -> x.next(-1, 36));
        CHECK.noState("good", () -> x.good(-1));
        CHECK.noState("classes", () -> x.classes());
        CHECK.noState("differ", () -> x.differ());
        CHECK.noState("keep", () -> {
            x.keep();
            return 0;
        });
        CHECK.noIndex("letter", () -> x.letter(0));
        CHECK.due("clear", x.clear(), 0);
        CHECK.due("type", x.type('a', 1), 1);
        House y = new House();
        CHECK.due("read of nothing", y.read(), 0);
        CHECK.due("its positions", y.positions(), 0);
        CHECK.due("its empty word", y.empty(), true);
        CHECK.due("whole empty text", y.whole(), true);
        CHECK.noState("differ with none kept", () -> y.differ());
    }

    private static void typing() {
        House x = new House();
        for (int n : new int[] {0, -1, 9, 64, Integer.MIN_VALUE, Integer.MAX_VALUE}) {
            CHECK.noArgument("type with n " + n, () -> x.type(Check.pack("aaaaaaaa"), n));
        }
        CHECK.due("only n characters count", x.type(Check.pack("ab)"), 2), 2);
        CHECK.due("read", x.read(), 0);
        CHECK.due("lowest byte first", x.has(0, 0) && x.has(1, 1), true);
        CHECK.due("nothing is typed after read", x.type('c', 1), 1);
        CHECK.due("eight", x.type(Check.pack("defghijk"), 8), 9);
        CHECK.due("read", x.read(), 0);
        CHECK.due("positions", x.positions(), 9);
        CHECK.due("letters", x.has(0, 2) && x.has(1, 3) && x.has(8, 10), true);
        Check.typeAll(x, "()".repeat(98));
        CHECK.noState("five with room for four", () -> x.type(Check.pack("aaaaa"), 5));
        CHECK.noArgument("a wrong n comes first", () -> x.type(Check.pack("aaaaa"), 9));
        CHECK.due("four with room for four", x.type(Check.pack("()zz"), 4), 200);
        CHECK.noState("no room", () -> x.type('a', 1));
        CHECK.noArgument("no room and a wrong n", () -> x.type('a', 0));
        CHECK.due("read", x.read(), 0);
        CHECK.due("what did not fit is not there", x.positions(), 2);
        CHECK.due("place", x.place(), PatternHouse.NONE);
        CHECK.due("any byte can be typed", x.type(-1L, 8), 8);
        CHECK.due("and is no character of a pattern", x.read(), 1);
        CHECK.due("place", x.place(), 0);
    }

    private static void reading() {
        House x = CHECK.pattern("ab");
        fault(x, "abc(", 2, 4);
        CHECK.due("the one before stays", x.positions(), 2);
        CHECK.due("nothing is typed after a fault", x.type('a', 1), 1);
        CHECK.due("place stays until the next read", x.place(), 4);
        CHECK.due("read", x.read(), 0);
        CHECK.due("place", x.place(), PatternHouse.NONE);
        CHECK.due("positions", x.positions(), 1);
        CHECK.text(x, "a");
        CHECK.due("read with finds", x.finds(), 1);
        fault(x, "b|*", 1, 2);
        CHECK.due("the finds are those of the one before", x.finds(), 1);
        CHECK.due("its states too", x.states(), 3);
        CHECK.due("read of nothing", x.read(), 0);
        CHECK.due("positions", x.positions(), 0);
        CHECK.due("finds", x.finds(), 0);
        House y = new House();
        fault(y, "a)", 1, 1);
        CHECK.noState("a fault makes no pattern", () -> y.positions());
        for (String good : new String[] {"", "()", "|", "||", "(|)", "a||b", "a**", "a+?*", "a{2}{1}+", "(a|b){2}?",
            "[a]", "[^a]", "[aa]", "[a-a]", "[a-bb-c]", "[ab-c]", "[a-bc]", ".", "[a-z0-9]", "[z-0]", "9{5}",
            "a{0,1}", "a{5,5}", "(()())", "[^a-z0-9]"}) {
            CHECK.pattern(x, good);
            CHECK.due("place after " + good, x.place(), PatternHouse.NONE);
        }
    }

    private static void charactersThatCannotBeThere() {
        for (char c = 0; c < 256; c++) {
            String one = String.valueOf(c);
            boolean letter = c >= 'a' && c <= 'z' || c >= '0' && c <= '9';
            boolean begins = letter || ".[(|".indexOf(c) >= 0;
            refused(one, 0, begins);
            refused("a" + one, 1, begins || "*+?{".indexOf(c) >= 0);
            refused("a*" + one, 2, begins || "*+?{".indexOf(c) >= 0);
            refused("[a]" + one, 3, begins || "*+?{".indexOf(c) >= 0);
            refused("a{2}" + one, 4, begins || "*+?{".indexOf(c) >= 0);
            refused("a|" + one, 2, begins);
            refused("(" + one, 1, begins || c == ')');
            refused("(a|" + one, 3, begins || c == ')');
            refused("()" + one, 2, begins || "*+?{".indexOf(c) >= 0);
            refused("(a" + one, 2, begins || "*+?{)".indexOf(c) >= 0);
            refused("[" + one, 1, letter || c == '^');
            refused("[^" + one, 2, letter);
            refused("[a" + one, 2, letter || c == '-' || c == ']');
            refused("[0-" + one, 3, letter);
            refused("[a-c" + one, 4, letter || c == ']');
            refused("[a-cx" + one, 5, letter || c == '-' || c == ']');
            boolean digit = c >= '0' && c <= '9';
            refused("a{" + one, 2, digit);
            refused("a{2" + one, 3, c == ',' || c == '}');
            refused("a{2," + one, 4, digit);
            refused("a{2,3" + one, 5, c == '}');
        }
    }

    /** Whether the last character of a pattern is refused as one that can't be there, or is not. */
    private static void refused(String pattern, int at, boolean taken) {
        House x = new House();
        int fault = Check.readAll(x, pattern);
        CHECK.due(pattern + " is refused", fault == 1, !taken);
        if (!taken) {
            CHECK.due("place of the fault in " + pattern, x.place(), at);
        }
    }

    private static void endsTooSoon() {
        House x = new House();
        for (String pattern : new String[] {"(", "(a", "(a|", "((a)", "[", "[^", "[a", "[a-", "[a-b", "[^a", "a{",
            "a{2", "a{2,", "a{2,3", "a{9", "a{9,1", "((((((((", "ab(){"}) {
            fault(x, pattern, 2, pattern.length());
        }
    }

    private static void times() {
        House x = new House();
        for (int m = 0; m <= 9; m++) {
            times(x, "ab{" + m + "}", m >= 1 && m <= 5, 1 + m);
            for (int n = 0; n <= 9; n++) {
                times(x, "ab{" + m + "," + n + "}", m <= n && n >= 1 && n <= 5, 1 + n);
            }
        }
        fault(x, "a{3,2}(", 3, 1);
        fault(x, "a{3,2", 2, 5);
        fault(x, "a{9;", 1, 3);
        fault(x, "(){6}", 3, 2);
        fault(x, "a{5}{0}", 3, 4);
        fault(x, "a{5}{5}{6}", 3, 7);
    }

    private static void times(House x, String pattern, boolean allowed, int positions) {
        if (allowed) {
            CHECK.pattern(x, pattern);
            CHECK.due("positions of " + pattern, x.positions(), positions);
        } else {
            fault(x, pattern, 3, 2);
        }
    }

    private static void tooManyPositions() {
        House x = new House();
        String sixty = "a".repeat(60);
        CHECK.pattern(x, sixty);
        CHECK.due("positions", x.positions(), 60);
        CHECK.pattern(x, sixty + "()*{5}|(|)");
        fault(x, sixty + "b", 4, 60);
        fault(x, sixty + ".", 4, 60);
        fault(x, sixty + "|b", 4, 61);
        fault(x, sixty + "(b", 4, 61);
        fault(x, sixty + "[b-d]", 4, 60);
        fault(x, sixty + "[b-d", 2, 64);
        fault(x, sixty + "[d-b]", 6, 61);
        fault(x, sixty + "[b)", 1, 62);
        fault(x, sixty + "b)", 4, 60);
        CHECK.pattern(x, sixty + "{1}{1,1}");
        CHECK.pattern(x, sixty + "{0,1}");
        fault(x, sixty + "{2}", 4, 60);
        fault(x, sixty + "{0,2}", 4, 60);
        fault(x, sixty + "{2", 2, 62);
        fault(x, sixty + "{2;", 1, 62);
        fault(x, sixty + "{2,1}", 3, 60);
        fault(x, sixty + "{9}", 3, 60);
        CHECK.pattern(x, "a".repeat(55) + "b{5}");
        CHECK.pattern(x, "a".repeat(59) + "{2}");
        CHECK.due("positions", x.positions(), 60);
        fault(x, "a".repeat(56) + "b{5}", 4, 57);
        CHECK.pattern(x, "(abcdefghijkl){5}");
        CHECK.due("positions", x.positions(), 60);
        fault(x, "(abcdefghijklm){5}", 4, 15);
        fault(x, "(abcdefghijkl){5}z", 4, 17);
        CHECK.pattern(x, "a{5}{4}{3}");
        fault(x, "a{5}{4}{4}", 4, 7);
        fault(x, "za{5}{4}{3}", 4, 8);
        fault(x, "(x(a{5}){5}){3}", 4, 12);
        CHECK.pattern(x, "(" + "()".repeat(40) + "{5}){5}{5}{5}{5}");
        CHECK.due("a part without positions may stand there any number of times", x.positions(), 0);
        CHECK.pattern(x, sixty + "(){5}{5}");
    }

    private static void brackets() {
        House x = new House();
        CHECK.pattern(x, "((((((((a))))))))");
        CHECK.pattern(x, "()()()()()()()()()((((((((a))))))))((((((((a))))))))");
        CHECK.pattern(x, "(((((((" + "(a)(b)|()" + ")))))))");
        fault(x, "(((((((((a)))))))))", 5, 8);
        fault(x, "(((((((((", 5, 8);
        fault(x, "((((((((a)|(b)(c(", 5, 16);
        fault(x, "((((((((a{2(", 1, 11);
        fault(x, "a".repeat(60) + "(((((((((b", 5, 68);
    }

    private static void lettersWrongWayRound() {
        House x = new House();
        fault(x, "[b-a]", 6, 1);
        fault(x, "[b-a", 6, 1);
        fault(x, "[b-a*", 6, 1);
        fault(x, "[^b-a]", 6, 2);
        fault(x, "[0-z]", 6, 1);
        fault(x, "x[a-c9-0]", 6, 5);
        fault(x, "[a-c-e]", 1, 4);
        CHECK.pattern(x, "[a-9]");
        CHECK.pattern(x, "[z-0]");
        CHECK.pattern(x, "[ba]");
    }

    private static void faultsInTheirOrder() {
        House x = new House();
        fault(x, "a)b{9}[b-a]", 1, 1);
        fault(x, "b{9})", 3, 1);
        fault(x, "[b-a]b{9}", 6, 1);
        fault(x, "(b{9}", 3, 2);
    }

    private static void nothingIsLeftOfAFault() {
        House x = new House();
        fault(x, "a)", 1, 1);
        fault(x, "*", 1, 0);
        fault(x, "(((", 2, 3);
        fault(x, ")", 1, 0);
        fault(x, "a{2", 2, 3);
        fault(x, "}", 1, 0);
        fault(x, "[^b", 2, 3);
        fault(x, "]", 1, 0);
        fault(x, "[^b", 2, 3);
        CHECK.pattern(x, "[a]");
        CHECK.due("its letters", x.has(0, 0) && !x.has(0, 1) && !x.has(0, 2), true);
        fault(x, "a*|(b", 2, 5);
        CHECK.pattern(x, "c");
        CHECK.due("its positions", x.positions(), 1);
        CHECK.due("it has no word without letters", x.empty(), false);
        CHECK.due("nothing behind c", x.follows(0, 0), false);
    }

    private static void fault(House x, String pattern, int fault, int place) {
        CHECK.due("fault of " + pattern, Check.readAll(x, pattern), fault);
        CHECK.due("place of the fault in " + pattern, x.place(), place);
    }
}

/** "Terms": the faults of a pattern, and where each one is. */
final class TermsOfFaults {
    private static final Check CHECK = SentencesTest.CHECK;
    private static final String FAULT_3 = "3 m above n, n above 5, or 0: at the {, when the } is read.";
    private static final String FAULT_4 = "4 more than 60 positions: at the atom (at its [), or the {,"
            + " behind which there are too many, when that has been read.";
    private static final String FAULT_6 = "6 a letter before - with a greater number than that behind:"
            + " at the first one, when the second one is read.";
    private static final String SIXTY = "a".repeat(60);

    private TermsOfFaults() {
    }

    static void run() {
        theFirstOne();
        cannotBeThere();
        endsWhereMoreMustCome();
        mAboveN();
        nAbove5();
        nIs0();
        timesAreLookedAtWhenTheyAreRead();
        moreThan60Positions();
        tooManyAtAnAtom();
        tooManyAtASet();
        tooManyAtTimes();
        tooManyWhenItHasBeenRead();
        aNinthBracket();
        aGreaterLetterBefore();
        aGreaterLetterWhenTheSecondIsRead();
        timesBeforePositions();
        timesOfAPartWithoutPositions();
        aPartWithoutPositions();
    }

    private static void theFirstOne() {
        CHECK.says("Terms", "FAULTS, the first one; characters are looked at one by one:");
        String[] patterns = {"a)", "a{0}", SIXTY + "a", "(((((((((", "[b-a]"};
        int[] faults = {1, 3, 4, 5, 6};
        int[] places = {1, 1, 60, 8, 1};
        for (int i = 0; i < patterns.length; i++) {
            CHECK.fault(patterns[i], faults[i], places[i]);
            CHECK.fault(patterns[i] + "(", faults[i], places[i]);
            CHECK.fault("(" + patterns[i].replace("a)", "a}").replace("(((((((((", "(((((((("), faults[i],
                    faults[i] == 5 ? 8 : places[i] + 1);
            for (String second : patterns) {
                CHECK.fault(patterns[i] + second, faults[i], places[i]);
            }
        }
    }

    private static void cannotBeThere() {
        CHECK.says("Terms", "1 a character that can't be there: there.");
        atEachPlace("", ")*+?{]^-},");
        atEachPlace("a", ")]^-},");
        atEachPlace("a|", ")*+?{]^-},");
        atEachPlace("(", "*+?{]^-},");
        atEachPlace("(a|", "*+?{]^-},");
        atEachPlace("()", ")]^-},");
        atEachPlace("[", "])(.*+?{}|,-[");
        atEachPlace("[^", "])(.*+?{}|,-[^");
        atEachPlace("[a", ")(.*+?{}|,[^");
        atEachPlace("[a-", "])(.*+?{}|,-[^");
        atEachPlace("[a-c", ")(.*+?{}|,-[^");
        atEachPlace("a{", "a})(.*+?{|,-[]^");
        atEachPlace("a{1", "a1)(.*+?{|-[]^");
        atEachPlace("a{1,", "a})(.*+?{|,-[]^");
        atEachPlace("a{1,1", "a1)(.*+?{|,-[]^");
        CHECK.fault("|".repeat(199) + "*", 1, 199);
        CHECK.fault("*" + "|".repeat(199), 1, 0);
    }

    /** Characters that can't be there behind a beginning; those of no pattern at all among them. */
    private static void atEachPlace(String beginning, String wrong) {
        for (char c : (wrong + "A_ /:`~!\0\t\n\u0080\u00ff").toCharArray()) {
            CHECK.fault(beginning + c, 1, beginning.length());
            CHECK.fault("b|" + beginning + c + "c", 1, beginning.length() + 2);
        }
    }

    private static void endsWhereMoreMustCome() {
        CHECK.says("Terms", "2 it ends where more must come: at its end.");
        for (String pattern : new String[] {"(", "(a", "(a|", "()(", "((a)", "((((((((", "[", "[^", "[a", "[^a", "[a-",
            "[a-b", "[a-bc", "a{", "a{1", "a{1,", "a{1,2", "(a{1}", "(|" + "b".repeat(60)}) {
            CHECK.fault(pattern, 2, pattern.length());
        }
        CHECK.fault("(" + "|".repeat(198), 2, 199);
        CHECK.fault("(" + "|".repeat(199), 2, 200);
        CHECK.fault("[" + "a".repeat(199), 2, 200);
        CHECK.pattern("");
        CHECK.pattern("a|");
    }

    private static void mAboveN() {
        CHECK.says("Terms", FAULT_3);
        for (int n = 1; n <= 5; n++) {
            CHECK.pattern("a{" + n + "," + n + "}");
            CHECK.fault("a{" + (n + 1) + "," + n + "}", 3, 1);
            CHECK.fault("a{9," + n + "}", 3, 1);
        }
    }

    private static void nAbove5() {
        CHECK.says("Terms", FAULT_3);
        CHECK.pattern("a{5}");
        CHECK.pattern("a{0,5}");
        CHECK.pattern("a{5,5}");
        for (int n = 6; n <= 9; n++) {
            CHECK.fault("a{" + n + "}", 3, 1);
            CHECK.fault("a{0," + n + "}", 3, 1);
            CHECK.fault("a{5," + n + "}", 3, 1);
            CHECK.fault("a{" + n + "," + n + "}", 3, 1);
        }
    }

    private static void nIs0() {
        CHECK.says("Terms", FAULT_3);
        CHECK.fault("a{0}", 3, 1);
        CHECK.fault("a{0,0}", 3, 1);
        CHECK.fault("a{1,0}", 3, 1);
        CHECK.pattern("a{1}");
        CHECK.pattern("a{0,1}");
    }

    private static void timesAreLookedAtWhenTheyAreRead() {
        CHECK.says("Terms", FAULT_3);
        CHECK.fault("a{6", 2, 3);
        CHECK.fault("a{0", 2, 3);
        CHECK.fault("a{2,1", 2, 5);
        CHECK.fault("a{6)", 1, 3);
        CHECK.fault("a{2,1)", 1, 5);
        CHECK.fault("a{6}", 3, 1);
        CHECK.fault("a{6})", 3, 1);
        CHECK.fault("a{6}(", 3, 1);
        CHECK.fault("b(ab{2}{3,2})", 3, 7);
        CHECK.fault("|".repeat(195) + "a{6}", 3, 196);
    }

    private static void moreThan60Positions() {
        CHECK.says("Terms", FAULT_4);
        CHECK.due("positions", CHECK.pattern("a".repeat(59)).positions(), 59);
        CHECK.due("positions", CHECK.pattern(SIXTY).positions(), 60);
        CHECK.fault(SIXTY + "a", 4, 60);
        CHECK.fault("a".repeat(200), 4, 60);
        CHECK.due("brackets take none", CHECK.pattern("((" + SIXTY + ")|())()*").positions(), 60);
    }

    private static void tooManyAtAnAtom() {
        CHECK.says("Terms", FAULT_4);
        CHECK.fault(SIXTY + "9", 4, 60);
        CHECK.fault(SIXTY + ".", 4, 60);
        CHECK.fault(SIXTY + "|b", 4, 61);
        CHECK.fault(SIXTY + "(|b)", 4, 62);
        CHECK.fault(SIXTY + "b{9}", 4, 60);
        CHECK.fault("(a{5}{4}){3}b", 4, 12);
    }

    private static void tooManyAtASet() {
        CHECK.says("Terms", FAULT_4);
        CHECK.pattern("a".repeat(59) + "[b-d]");
        CHECK.fault(SIXTY + "[b]", 4, 60);
        CHECK.fault(SIXTY + "|[^b-d]", 4, 61);
    }

    private static void tooManyAtTimes() {
        CHECK.says("Terms", FAULT_4);
        CHECK.due("positions", CHECK.pattern("a".repeat(58) + "b{2}").positions(), 60);
        CHECK.fault("a".repeat(59) + "b{2}", 4, 60);
        CHECK.due("positions", CHECK.pattern("a".repeat(55) + "b{5}").positions(), 60);
        CHECK.fault("a".repeat(56) + "b{5}", 4, 57);
        CHECK.due("positions", CHECK.pattern("(abcdefghijkl){5}").positions(), 60);
        CHECK.fault("(abcdefghijklm){5}", 4, 15);
        CHECK.due("positions", CHECK.pattern("(abcdefghijkl){0,5}").positions(), 60);
        CHECK.fault("(abcdefghijklm){0,5}", 4, 15);
        CHECK.due("positions", CHECK.pattern("a{5}{4}{3}").positions(), 60);
        CHECK.fault("a{5}{5}{3}", 4, 7);
        CHECK.fault("ba{5}{4}{3}", 4, 8);
        CHECK.due("once is no more", CHECK.pattern(SIXTY + "{1}").positions(), 60);
        CHECK.due("once or not is no more", CHECK.pattern("(" + SIXTY + "){0,1}").positions(), 60);
    }

    private static void tooManyWhenItHasBeenRead() {
        CHECK.says("Terms", FAULT_4);
        CHECK.fault(SIXTY + "b)", 4, 60);
        CHECK.fault(SIXTY + "[b", 2, 62);
        CHECK.fault(SIXTY + "[b)", 1, 62);
        CHECK.fault(SIXTY + "[c-b]", 6, 61);
        CHECK.fault(SIXTY + "[b])", 4, 60);
        CHECK.fault(SIXTY + "{2", 2, 62);
        CHECK.fault(SIXTY + "{2)", 1, 62);
        CHECK.fault(SIXTY + "{2})", 4, 60);
        CHECK.fault(SIXTY + "{2}b", 4, 60);
    }

    private static void aNinthBracket() {
        CHECK.says("Terms", "5 a ninth bracket in brackets: at its (.");
        CHECK.pattern("((((((((a))))))))");
        CHECK.fault("(((((((((a)))))))))", 5, 8);
        CHECK.fault("(((((((((", 5, 8);
        CHECK.fault("((((((((", 2, 8);
        CHECK.fault("a(b|(c((d*((e((f|(", 5, 17);
        CHECK.pattern("()()()()()()()()()()");
        CHECK.pattern("(((((((()()()[ab])))))))((((((((b))))))))");
        CHECK.fault("(((((((()()()(()", 5, 14);
        CHECK.fault("|".repeat(191) + "(((((((((", 5, 199);
    }

    private static void aGreaterLetterBefore() {
        CHECK.says("Terms", FAULT_6);
        for (int i = 0; i < 36; i++) {
            for (int j = 0; j < 36; j++) {
                String pattern = "[" + Told.LETTERS.charAt(i) + "-" + Told.LETTERS.charAt(j) + "]";
                if (i <= j) {
                    CHECK.pattern(pattern);
                } else {
                    CHECK.fault(pattern, 6, 1);
                }
            }
        }
    }

    private static void aGreaterLetterWhenTheSecondIsRead() {
        CHECK.says("Terms", FAULT_6);
        CHECK.fault("[b-", 2, 3);
        CHECK.fault("[b-)", 1, 3);
        CHECK.fault("[b-a", 6, 1);
        CHECK.fault("[b-a)", 6, 1);
        CHECK.fault("[^b-a]", 6, 2);
        CHECK.fault("x[a-cz9-0]", 6, 6);
        CHECK.fault("|".repeat(196) + "[b-a", 6, 197);
    }

    private static void timesBeforePositions() {
        CHECK.says("Terms", "(Of 3 and 4 at a { 3 comes first;");
        CHECK.fault(SIXTY + "{2}", 4, 60);
        CHECK.fault(SIXTY + "{6}", 3, 60);
        CHECK.fault(SIXTY + "{3,2}", 3, 60);
        CHECK.fault(SIXTY + "{0,9}", 3, 60);
    }

    /** Any number of times, but each time with an n that may be there: fault 3 is no matter of positions. */
    private static void timesOfAPartWithoutPositions() {
        CHECK.says("Terms", FAULT_3);
        for (String times : new String[] {"{0}", "{0,0}", "{6}", "{9}", "{0,6}", "{6,6}", "{2,1}", "{5,4}", "{9,0}"}) {
            CHECK.fault("()" + times, 3, 2);
            CHECK.fault("(|)" + times, 3, 3);
            CHECK.fault("(()*|){5}" + times, 3, 9);
            CHECK.fault(SIXTY + "()" + times, 3, 62);
        }
    }

    private static void aPartWithoutPositions() {
        CHECK.says("Terms", "a part without positions may stand there any number of times.)");
        CHECK.due("positions", CHECK.pattern("()" + "{5}".repeat(66)).positions(), 0);
        CHECK.due("positions", CHECK.pattern(SIXTY + "(()|){5}{5}{5}").positions(), 60);
        CHECK.due("positions", CHECK.pattern(SIXTY + "(){0,5}").positions(), 60);
        CHECK.due("positions", CHECK.pattern("(){5}{5}" + SIXTY).positions(), 60);
        CHECK.due("it means the word without letters", CHECK.pattern("(){5}").empty(), true);
    }
}

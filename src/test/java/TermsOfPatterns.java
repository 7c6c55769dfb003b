/** "Terms": letters, and the characters, rows, choices, atoms and suffixes of a pattern. */
final class TermsOfPatterns {
    private static final Check CHECK = SentencesTest.CHECK;

    private TermsOfPatterns() {
    }

    static void run() {
        lettersAre36();
        noOtherCharacterIsALetter();
        atMost200Characters();
        aRowPerhapsOfNone();
        choices();
        anyNumberOfSuffixes();
        aLetter();
        aPoint();
        oneOrMoreLettersInASet();
        fromOneToTheOther();
        noneOfThem();
        brackets();
        anyNumberOfTimes();
        onceOrMore();
        onceOrNot();
        oneDigitEach();
        upToNTimes();
        meaningOfRows();
        meaningOfChoices();
    }

    private static void lettersAre36() {
        CHECK.says("Terms", "LETTERS are 36: a .. z (0 .. 25), 0 .. 9 (26 .. 35).");
        for (int letter = 0; letter < 36; letter++) {
            String character = Told.LETTERS.substring(letter, letter + 1);
            House x = CHECK.pattern("[^a-z0-9]");
            x.keep();
            CHECK.pattern(x, character);
            CHECK.due("letters of the position of " + character, Told.letters(x, 0), character);
            CHECK.due("feed of " + character, x.feed(character.charAt(0), 1), 1);
            CHECK.due("whole text " + character, x.whole(), true);
            CHECK.due("the way of " + character + " is good", x.good(x.next(0, letter)), true);
            CHECK.due("the word " + character + " has a letter", x.differ(), 1);
            CHECK.due("letter of the word " + character, x.letter(0), letter);
        }
    }

    private static void noOtherCharacterIsALetter() {
        CHECK.says("Terms", "LETTERS are 36: a .. z (0 .. 25), 0 .. 9 (26 .. 35).");
        for (char c : new char[] {'a' - 1, 'z' + 1, '0' - 1, '9' + 1, 'A', 'Z', 0, 255}) {
            CHECK.fault(String.valueOf(c), 1, 0);
            CHECK.fault("[" + c + "]", 1, 1);
            CHECK.noArgument("feed of character " + (int) c, () -> new House().feed(c, 1));
        }
    }

    private static void atMost200Characters() {
        CHECK.says("Terms", "A PATTERN is told in characters (at most 200):");
        for (int length : new int[] {0, 1, 199, 200}) {
            House x = CHECK.pattern("|".repeat(length));
            CHECK.due("place", x.place(), PatternHouse.NONE);
            CHECK.due("positions of " + length + " bars", x.positions(), 0);
        }
        House x = new House();
        Check.typeAll(x, "a" + "|".repeat(198) + "b");
        CHECK.noState("character 201", () -> x.type('c', 1));
        CHECK.due("200 are read", x.read(), 0);
        CHECK.due("the first and the last of 200", Told.letters(x, 0) + Told.letters(x, 1), "ab");
    }

    private static void aRowPerhapsOfNone() {
        CHECK.says("Terms", "PARTS one behind the other are a ROW (perhaps of none),");
        for (String pattern : new String[] {"", "()", "|", "||", "(|)", "()()", "(())"}) {
            CHECK.word(pattern, "", true);
            CHECK.word(pattern, "a", false);
        }
        for (String pattern : new String[] {"a|", "|a", "(a|)", "(|a)", "a||"}) {
            CHECK.word(pattern, "", true);
            CHECK.word(pattern, "a", true);
            CHECK.word(pattern, "aa", false);
        }
        CHECK.word("a()b", "ab", true);
        CHECK.word("a".repeat(60), "a".repeat(60), true);
        CHECK.word("a".repeat(60), "a".repeat(59), false);
    }

    private static void choices() {
        CHECK.says("Terms", "rows with | (124) between them are CHOICES.");
        StringBuilder sixty = new StringBuilder("a");
        for (int i = 1; i < 60; i++) {
            sixty.append((char) 124).append(i == 59 ? "b" : "a");
        }
        CHECK.word(sixty.toString(), "a", true);
        CHECK.word(sixty.toString(), "b", true);
        CHECK.word(sixty.toString(), "c", false);
        CHECK.word("ab|cd", "ab", true);
        CHECK.word("ab|cd", "cd", true);
        CHECK.word("ab|cd", "acd", false);
    }

    private static void anyNumberOfSuffixes() {
        CHECK.says("Terms", "A part is an ATOM and then any number of SUFFIXES.");
        CHECK.due("no suffix", Told.layout(CHECK.pattern("a")), "0 / 0 / 0:");
        CHECK.due("one", Told.layout(CHECK.pattern("a+")), "0 / 0 / 0:0");
        CHECK.due("two", Told.layout(CHECK.pattern("a+?")), "empty or 0 / 0 / 0:0");
        CHECK.due("as many as there is room for", Told.layout(CHECK.pattern("a" + "*".repeat(199))),
                "empty or 0 / 0 / 0:0");
        CHECK.due("with digits", Told.layout(CHECK.pattern("a" + "{1}".repeat(66))), "0 / 0 / 0:");
        CHECK.due("one behind the other", Told.layout(CHECK.pattern("a{2}+{1,2}?")),
                "empty or 0 / 1 3 / 0:1 1:0,2 2:3 3:2");
    }

    private static void aLetter() {
        CHECK.says("Terms", "Atoms: a letter;");
        CHECK.word("a", "a", true);
        CHECK.word("a", "", false);
        CHECK.word("a", "b", false);
        CHECK.word("a", "aa", false);
    }

    private static void aPoint() {
        CHECK.says("Terms", "a point (46), any letter;");
        CHECK.due("its letters", Told.letters(CHECK.pattern(String.valueOf((char) 46)), 0), Told.LETTERS);
        CHECK.word(".", "a", true);
        CHECK.word(".", "9", true);
        CHECK.word(".", "", false);
        CHECK.word(".", "a9", false);
    }

    private static void oneOrMoreLettersInASet() {
        CHECK.says("Terms", "[ (91), perhaps ^ (94), then one or more of a letter,");
        CHECK.fault("[]", 1, 1);
        CHECK.fault("[^]", 1, 2);
        CHECK.fault("[^^a]", 1, 2);
        CHECK.fault("[a^]", 1, 2);
        CHECK.fault("[.]", 1, 1);
        CHECK.fault("[[a]]", 1, 1);
        set("[a]", "a");
        set("[aa]", "a");
        set("[9a]", "a9");
        set("[" + Told.LETTERS + "]", Told.LETTERS);
        set("[" + "b".repeat(197) + "a]", "ab");
        set("[^" + "b".repeat(197) + "]", Told.LETTERS.replace("b", ""));
    }

    private static void fromOneToTheOther() {
        CHECK.says("Terms", "or of two with - (45) between them (all from one to the other, by their numbers), then ] (93):");
        set("[a-a]", "a");
        set("[9-9]", "9");
        set("[a-b]", "ab");
        set("[8-9]", "89");
        set("[z-0]", "z0");
        set("[a-9]", Told.LETTERS);
        set("[a-bb-c]", "abc");
        set("[a-bd]", "abd");
        set("[da-b]", "abd");
        set("[a-b8-9]", "ab89");
        CHECK.fault("[-a]", 1, 1);
        CHECK.fault("[a-]", 1, 3);
        CHECK.fault("[a--b]", 1, 3);
        CHECK.fault("[a-b-c]", 1, 4);
        CHECK.fault("[^-a]", 1, 2);
    }

    private static void noneOfThem() {
        CHECK.says("Terms", "one of these letters, with ^ one that is none of them;");
        CHECK.word("[ab]", "", false);
        CHECK.word("[ab]", "ab", false);
        set("[^a]", Told.LETTERS.substring(1));
        set("[^9]", Told.LETTERS.substring(0, 35));
        set("[^a-8]", "9");
        set("[^b-9]", "a");
        set("[^a-9]", "");
        CHECK.word("[^a-9]", "", false);
        CHECK.word("[^a-9]", "a", false);
    }

    private static void set(String pattern, String letters) {
        House x = CHECK.pattern(pattern);
        CHECK.due("positions of " + pattern, x.positions(), 1);
        CHECK.due("letters of " + pattern, Told.letters(x, 0), letters);
    }

    private static void brackets() {
        CHECK.says("Terms", "( (40), choices, ) (41).");
        CHECK.word("(a)", "a", true);
        CHECK.word("(a|b)c", "bc", true);
        CHECK.word("(a|b)c", "a", false);
        CHECK.word("(ab)*", "abab", true);
        CHECK.word("(ab)*", "abb", false);
        CHECK.word("(a(b|c(d|e)))", "ace", true);
        CHECK.fault(")", 1, 0);
        CHECK.fault("(a))", 1, 3);
        CHECK.fault("(a", 2, 2);
    }

    private static void anyNumberOfTimes() {
        CHECK.says("Terms", "Suffixes: * (42) any number of times,");
        for (int times : new int[] {0, 1, 2, 199, 200}) {
            CHECK.word("a" + (char) 42, "a".repeat(times), true);
        }
        CHECK.word("a*", "a".repeat(199) + "b", false);
        CHECK.word("()*", "", true);
        CHECK.word("()*", "a", false);
    }

    private static void onceOrMore() {
        CHECK.says("Terms", "+ (43) once or more,");
        CHECK.word("a" + (char) 43, "", false);
        for (int times : new int[] {1, 2, 199, 200}) {
            CHECK.word("a+", "a".repeat(times), true);
        }
        CHECK.word("(a?)+", "", true);
    }

    private static void onceOrNot() {
        CHECK.says("Terms", "? (63) once or not;");
        CHECK.word("a" + (char) 63, "", true);
        CHECK.word("a?", "a", true);
        CHECK.word("a?", "aa", false);
    }

    private static void oneDigitEach() {
        CHECK.says("Terms", "{m} or {m,n} (123, 44, 125; m and n one digit each):");
        CHECK.pattern("a" + (char) 123 + "2" + (char) 44 + "3" + (char) 125);
        CHECK.fault("a{}", 1, 2);
        CHECK.fault("a{,}", 1, 2);
        CHECK.fault("a{,2}", 1, 2);
        CHECK.fault("a{1,}", 1, 4);
        CHECK.fault("a{12}", 1, 3);
        CHECK.fault("a{01}", 1, 3);
        CHECK.fault("a{1,12}", 1, 5);
        CHECK.fault("a{1,2,3}", 1, 5);
        CHECK.fault("a{a}", 1, 2);
        CHECK.fault("a{1,a}", 1, 4);
        CHECK.fault("a{-1}", 1, 2);
    }

    private static void upToNTimes() {
        CHECK.says("Terms", "m times, with n up to n times.");
        for (int n = 1; n <= 5; n++) {
            times("a{" + n + "}", n, n);
            for (int m = 0; m <= n; m++) {
                times("a{" + m + "," + n + "}", m, n);
            }
        }
    }

    private static void times(String pattern, int least, int most) {
        for (int times = 0; times <= 6; times++) {
            CHECK.word(pattern, "a".repeat(times), times >= least && times <= most);
        }
    }

    private static void meaningOfRows() {
        CHECK.says("Terms", "It MEANS a set of words (rows of letters) as usual: a row one word of each part behind the other,");
        CHECK.word("a?b?", "", true);
        CHECK.word("a?b?", "a", true);
        CHECK.word("a?b?", "b", true);
        CHECK.word("a?b?", "ab", true);
        CHECK.word("a?b?", "ba", false);
        CHECK.word("(ab|a)(bc|c)", "abc", true);
        CHECK.word("(ab|a)(bc|c)", "abbc", true);
        CHECK.word("(ab|a)(bc|c)", "ac", true);
        CHECK.word("(ab|a)(bc|c)", "ab", false);
    }

    private static void meaningOfChoices() {
        CHECK.says("Terms", "choices a word of any of them.");
        CHECK.word("ab|c*|", "ab", true);
        CHECK.word("ab|c*|", "", true);
        CHECK.word("ab|c*|", "cc", true);
        CHECK.word("ab|c*|", "abc", false);
    }
}

/** Promises 5 to 9: positions, empty, is, follows and has. */
public final class LayoutTest {
    private static final Check CHECK = new Check();

    public static void main(String[] args) {
        ordinary();
        copies();
        emptyWords();
        letters();
        wrongInputs();
        CHECK.end();
    }

    private static void ordinary() {
        laidOut("", true, "", "", "");
        laidOut("a", false, "0", "0", "0:");
        laidOut("abc", false, "0", "2", "0:1 1:2 2:");
        laidOut("a|b|c", false, "0 1 2", "0 1 2", "0: 1: 2:");
        laidOut("a(b|c)*d", false, "0", "3", "0:1,2,3 1:1,2,3 2:1,2,3 3:");
        laidOut("a*", true, "0", "0", "0:0");
        laidOut("a+", false, "0", "0", "0:0");
        laidOut("a?", true, "0", "0", "0:");
        laidOut("a?b*c+", false, "0 1 2", "2", "0:1,2 1:1,2 2:2");
        laidOut("(ab)*", true, "0", "1", "0:1 1:0");
        laidOut("(ab)+c", false, "0", "2", "0:1 1:0,2 2:");
        laidOut("(a*b*)*", true, "0 1", "0 1", "0:0,1 1:0,1");
        laidOut("(a|)b", false, "0 1", "1", "0:1 1:");
        laidOut("()a()", false, "0", "0", "0:");
        laidOut("a|bc", false, "0 1", "0 2", "0: 1:2 2:");
        laidOut("(a|b)(c|d)", false, "0 1", "2 3", "0:2,3 1:2,3 2: 3:");
        laidOut(".[^a-z0-9]x", false, "0", "2", "0:1 1:2 2:");
        laidOut("a+?", true, "0", "0", "0:0");
        laidOut("(a?b?)+", true, "0 1", "0 1", "0:0,1 1:0,1");
    }

    private static void copies() {
        laidOut("a{1}", false, "0", "0", "0:");
        laidOut("a{3}", false, "0", "2", "0:1 1:2 2:");
        laidOut("a{0,3}", true, "0 1 2", "0 1 2", "0:1,2 1:2 2:");
        laidOut("a{1,3}", false, "0", "0 1 2", "0:1,2 1:2 2:");
        laidOut("a{2,3}b", false, "0", "3", "0:1 1:2,3 2:3 3:");
        laidOut("a{0,1}", true, "0", "0", "0:");
        laidOut("(ab){2}", false, "0", "3", "0:1 1:2 2:3 3:");
        laidOut("(ab){1,2}c", false, "0", "4", "0:1 1:2,4 2:3 3:4 4:");
        laidOut("a*{2}", true, "0 1", "0 1", "0:0,1 1:1");
        laidOut("a+{2}", false, "0", "1", "0:0,1 1:1");
        laidOut("a?{2}", true, "0 1", "0 1", "0:1 1:");
        laidOut("a{2}*", true, "0", "1", "0:1 1:0");
        laidOut("a{2}{2}", false, "0", "3", "0:1 1:2 2:3 3:");
        laidOut("a{1,2}?", true, "0", "0 1", "0:1 1:");
        laidOut("a{1,2}{2}", false, "0", "2 3", "0:1,2 1:2 2:3 3:");
        laidOut("x(a|b*){2}", false, "0", "0 1 2 3 4", "0:1,2,3,4 1:3,4 2:2,3,4 3: 4:4");
        laidOut("(a{2}b){2}", false, "0", "5", "0:1 1:2 2:3 3:4 4:5 5:");
        laidOut("((a|b){2})*", true, "0 1", "2 3", "0:2,3 1:2,3 2:0,1 3:0,1");
        laidOut("(){5}a{0,2}", true, "0 1", "0 1", "0:1 1:");
        House x = CHECK.pattern("x([0-3]y){0,2}z");
        String[] due = {"x", "0123", "y", "0123", "y", "z"};
        for (int p = 0; p < due.length; p++) {
            CHECK.due("letters of position " + p, Told.letters(x, p), due[p]);
        }
        House sixty = CHECK.pattern("(.*){5}{4}{3}");
        CHECK.due("positions", sixty.positions(), 60);
        CHECK.due("the highest position", sixty.is(59, 0) && sixty.is(59, 1) && sixty.follows(59, 59), true);
        CHECK.due("from the lowest to the highest", sixty.follows(0, 59), true);
        CHECK.due("from the highest to the lowest", sixty.follows(59, 0), false);
    }

    private static void emptyWords() {
        for (String with : new String[] {"", "|", "a|", "|a", "a*", "a?", "a{0,2}", "(a|b?)(c*)", "()", "(a?){3}",
            "(a|){2}", "(a*)+", "(ab)*?", "()+"}) {
            CHECK.due("empty of " + with, CHECK.pattern(with).empty(), true);
        }
        for (String without : new String[] {"a", "a+", "a{1,2}", "a*b", "(a|b)", "(a?b){2}", "a()", "[^a-z0-9]"}) {
            CHECK.due("empty of " + without, CHECK.pattern(without).empty(), false);
        }
    }

    private static void letters() {
        House x = CHECK.pattern("a9.[b-d][^b-d][z-0][xa-cx][^a-z0-9]");
        String[] due = {"a", "9", Told.LETTERS, "bcd", Told.LETTERS.replace("bcd", ""), "z0", "abcx", ""};
        CHECK.due("positions", x.positions(), due.length);
        for (int p = 0; p < due.length; p++) {
            CHECK.due("letters of position " + p, Told.letters(x, p), due[p]);
        }
    }

    private static void wrongInputs() {
        House x = CHECK.pattern("ab*");
        for (int p : new int[] {-1, 2, 60, 64, Integer.MIN_VALUE, Integer.MAX_VALUE}) {
            CHECK.noIndex("is " + p, () -> x.is(p, 0));
            CHECK.noIndex("is " + p + " with a wrong what", () -> x.is(p, 2));
            CHECK.noIndex("follows from " + p, () -> x.follows(p, 0));
            CHECK.noIndex("follows to " + p, () -> x.follows(0, p));
            CHECK.noIndex("has " + p, () -> x.has(p, 0));
        }
        for (int what : new int[] {-1, 2, Integer.MIN_VALUE, Integer.MAX_VALUE}) {
            CHECK.noArgument("is with what " + what, () -> x.is(1, what));
        }
        for (int letter : new int[] {-1, 36, 64, 97, Integer.MIN_VALUE, Integer.MAX_VALUE}) {
            CHECK.noIndex("has letter " + letter, () -> x.has(1, letter));
        }
        CHECK.pattern(x, "");
        CHECK.noIndex("is without positions", () -> x.is(0, 0));
        CHECK.noIndex("has without positions", () -> x.has(0, 0));
        CHECK.noIndex("follows without positions", () -> x.follows(0, 0));
    }

    private static void laidOut(String pattern, boolean empty, String firsts, String lasts, String behind) {
        House x = CHECK.pattern(pattern);
        CHECK.due("empty of " + pattern, x.empty(), empty);
        CHECK.due("FIRST of " + pattern, Told.firsts(x), firsts);
        CHECK.due("LAST of " + pattern, Told.lasts(x), lasts);
        CHECK.due("FOLLOW of " + pattern, Told.behind(x), behind);
    }
}

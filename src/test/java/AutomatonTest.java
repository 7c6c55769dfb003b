/** Promises 15 to 18: states, next, good and classes. */
public final class AutomatonTest {
    private static final Check CHECK = new Check();

    public static void main(String[] args) {
        small();
        exponential();
        atTheLimit();
        beyondTheLimit();
        wrongInputs();
        CHECK.end();
    }

    private static void small() {
        // the beginning is no set: it is told apart from the set without positions, and is never come back to
        automaton("", 2, 2, "g0");
        automaton("a", 3, 3, "-0 g1");
        automaton("a*", 3, 2, "g0 g1");
        automaton("a+", 3, 3, "-0 g1");
        automaton("[^a-z0-9]", 2, 1, "-0");
        automaton("[^a-z0-9]*", 2, 2, "g0");
        automaton(".*", 2, 1, "g0 g1");
        automaton(".", 3, 3, "-0 g1");
        automaton("a(b|c)*d", 6, 4, "-0 g5");
        automaton("(a|b)*abb", 6, 5, "-0 g5");
        automaton("(ab|ac)", 5, 4, "-0 g3 g4");
        automaton("9|a", 4, 3, "-0 g1 g3");
        House x = CHECK.pattern("9|a");
        CHECK.due("a", x.next(0, 0), 1);
        CHECK.due("b to the set without positions, met before 9", x.next(0, 1), 2);
        CHECK.due("9", x.next(0, 35), 3);
        CHECK.due("from the set without positions", x.next(2, 35), 2);
        CHECK.due("aa", x.next(1, 0), 2);
        CHECK.pattern(x, "a*b");
        CHECK.due("states", x.states(), 4);
        CHECK.due("a", x.next(0, 0), 1);
        CHECK.due("b", x.next(0, 1), 2);
        CHECK.due("c", x.next(0, 2), 3);
        CHECK.due("a a", x.next(1, 0), 1);
        CHECK.due("b a", x.next(2, 0), 3);
        CHECK.due("good", x.good(2), true);
        CHECK.due("not good", x.good(0) || x.good(1) || x.good(3), false);
    }

    /** The good states, or the beginning with - if it is not good. */
    private static void automaton(String pattern, int states, int classes, String goods) {
        House x = CHECK.pattern(pattern);
        CHECK.due("classes of " + pattern, x.classes(), classes);
        CHECK.due("states of " + pattern, x.states(), states);
        StringBuilder all = new StringBuilder(x.good(0) ? "g0 " : "-0 ");
        for (int s = 1; s < x.states(); s++) {
            all.append(x.good(s) ? "g" + s + " " : "");
        }
        CHECK.due("good ones of " + pattern, all.toString().trim(), goods);
        CHECK.due("classes of " + pattern + " again", x.classes(), classes);
    }

    private static void exponential() {
        House x = CHECK.pattern("(a|b)*a(a|b){5}");
        CHECK.due("states", x.states(), 66);
        CHECK.due("classes", x.classes(), 65);
        CHECK.pattern(x, "(a|b)*a(a|b){2}");
        CHECK.due("states", x.states(), 10);
        CHECK.due("classes", x.classes(), 9);
    }

    private static void atTheLimit() {
        // .*a.{7}: the beginning, and a set for each of 2^8 rows of eight letters that are a or not
        House x = CHECK.pattern(".*a.{5}..");
        CHECK.due("states", x.states(), 257);
        CHECK.due("classes", x.classes(), 256);
        waysStayWithin(".*a.{5}..", 257);
        // the beginning, the first a, 15 * 19 more for a, the set without positions, and 12 for b
        CHECK.pattern(x, "a(a{5}{3})*|a(a{5}{3}a{4})*|b{4}{3}");
        CHECK.due("just 300 states", x.states(), 300);
        CHECK.due("their classes: the first a is as the last of 285", x.classes(), 299);
        waysStayWithin("a(a{5}{3})*|a(a{5}{3}a{4})*|b{4}{3}", 300);
        CHECK.pattern(x, "a(a{5}{3})*|a(a{5}{3}a{4})*|b{4}{3}b");
        CHECK.due("one more", x.states(), 300);
        CHECK.due("no classes", x.classes(), PatternHouse.NONE);
    }

    private static void waysStayWithin(String pattern, int states) {
        Relay relay = new Relay(pattern);
        for (int s = 0; s < states; s++) {
            for (int letter = 0; letter < 36; letter++) {
                int target = relay.now().next(s, letter);
                CHECK.due("the way from " + s + " by " + letter + " stays within " + pattern,
                        target > 0 && target < states, true);
            }
        }
    }

    private static void beyondTheLimit() {
        House x = CHECK.pattern(".*a.{5}...");
        CHECK.due("states", x.states(), 300);
        CHECK.due("classes", x.classes(), PatternHouse.NONE);
        CHECK.due("next", x.next(299, 0), PatternHouse.NONE);
        CHECK.due("next by a", x.next(0, 0), 1);
        CHECK.due("next by b", x.next(0, 1), 2);
        CHECK.noIndex("state 300", () -> x.next(300, 0));
        CHECK.noIndex("good of state 300", () -> x.good(300));
        Relay relay = new Relay(".*a.{5}...");
        int beyond = 0;
        int goods = 0;
        for (int s = 0; s < 300; s++) {
            beyond += relay.now().next(s, 0) == PatternHouse.NONE ? 1 : 0;
            beyond += relay.now().next(s, 1) == PatternHouse.NONE ? 1 : 0;
            goods += relay.now().good(s) ? 1 : 0;
            CHECK.due("b and c lead to one state", relay.now().next(s, 1), relay.now().next(s, 2));
        }
        CHECK.due("some ways lead beyond", beyond > 0, true);
        CHECK.due("some states are good", goods, goodsOfFirst(relay));
        CHECK.pattern(x, "a");
        CHECK.due("states of the next pattern", x.states(), 3);
        CHECK.due("its classes", x.classes(), 3);
        CHECK.due("its ways", x.next(2, 35), 2);
    }

    /** A state is good if the ninth letter from the end of a word that leads to it is an a. */
    private static int goodsOfFirst(Relay relay) {
        String[] words = new String[300];
        words[0] = "";
        int goods = 0;
        for (int s = 0; s < words.length; s++) {
            for (int letter = 0; letter < 2; letter++) {
                int target = relay.now().next(s, letter);
                if (target != PatternHouse.NONE && words[target] == null) {
                    words[target] = words[s] + (char) ('a' + letter);
                }
            }
            int length = words[s].length();
            goods += length >= 9 && words[s].charAt(length - 9) == 'a' ? 1 : 0;
        }
        return goods;
    }

    private static void wrongInputs() {
        House x = CHECK.pattern("ab");
        CHECK.due("states", x.states(), 4);
        for (int s : new int[] {-1, 4, 300, Integer.MIN_VALUE, Integer.MAX_VALUE}) {
            CHECK.noIndex("next from " + s, () -> x.next(s, 0));
            CHECK.noIndex("good of " + s, () -> x.good(s));
        }
        for (int letter : new int[] {-1, 36, 97, Integer.MIN_VALUE, Integer.MAX_VALUE}) {
            CHECK.noIndex("next by letter " + letter, () -> x.next(0, letter));
        }
        CHECK.due("a fault", Check.readAll(x, "a**{"), 2);
        CHECK.due("the automaton stays", x.states(), 4);
    }
}

import java.util.ArrayList;
import java.util.List;

/** "Terms": a call that throws changes nothing, and which exception it throws. */
final class TermsOfExceptions {
    private static final Check CHECK = SentencesTest.CHECK;
    private static final String NO_SUCH =
            "IndexOutOfBoundsException: there is no such position, letter, find, place.";
    private static final String NO_ROOM_OR_PATTERN =
            "IllegalStateException: there is no room, or no pattern (or none kept).";
    private static final int[] NO_COUNTS = {Integer.MIN_VALUE, -1, 0, 9, 256 + 1, Integer.MAX_VALUE};
    private static final int[] NO_INDICES = {Integer.MIN_VALUE, -1, Integer.MAX_VALUE};
    private static final Class<? extends RuntimeException> STATE = IllegalStateException.class;
    private static final Class<? extends RuntimeException> INDEX = IndexOutOfBoundsException.class;
    private static final Class<? extends RuntimeException> ARGUMENT = IllegalArgumentException.class;

    private TermsOfExceptions() {
    }

    static void run() {
        changesNothing();
        theOneNamedFirst();
        noSuchPosition();
        noSuchLetter();
        noSuchFind();
        noSuchPlace();
        anotherNumber();
        noRoom();
        noPattern();
        noneKept();
    }

    private interface Call {
        Object on(House x);
    }

    private static final class Refused {
        final String name;
        final Class<? extends RuntimeException> due;
        final Call call;

        Refused(String name, Class<? extends RuntimeException> due, Call call) {
            this.name = name;
            this.due = due;
            this.call = call;
        }
    }

    /** Calls that bring a new object into a state, and what may be asked of it there. */
    private abstract static class Scene {
        boolean hasPattern;
        boolean hasKept;
        int positions;
        int states;
        int finds;
        int word;
        int typed;
        int fed;

        abstract void set(House x);

        House made() {
            House x = new House();
            set(x);
            return x;
        }
    }

    private static final class NewObject extends Scene {
        @Override
        void set(House x) {
        }
    }

    private static final class NoPattern extends Scene {
        NoPattern() {
            typed = 3;
            fed = 200;
        }

        @Override
        void set(House x) {
            Check.readAll(x, "a)");
            Check.typeAll(x, "ab(");
            CHECK.text(x, "ab".repeat(100));
        }
    }

    private static final class NoneKept extends Scene {
        NoneKept() {
            hasPattern = true;
            positions = 3;
            states = 5;
            finds = 2;
            typed = 195;
            fed = 5;
        }

        @Override
        void set(House x) {
            Check.readAll(x, "a(b|c)*");
            CHECK.text(x, "abxac");
            Check.typeAll(x, "|".repeat(195));
        }
    }

    private static final class AllFull extends Scene {
        AllFull() {
            hasPattern = true;
            hasKept = true;
            positions = 3;
            states = 5;
            finds = 66;
            word = 3;
            typed = 200;
            fed = 200;
        }

        @Override
        void set(House x) {
            Check.readAll(x, "abc");
            x.keep();
            Check.readAll(x, "abd");
            x.differ();
            Check.readAll(x, "x{");
            CHECK.text(x, "abd".repeat(66) + "ab");
            Check.typeAll(x, "q" + "|".repeat(199));
        }
    }

    private static final class NothingAtAll extends Scene {
        NothingAtAll() {
            hasPattern = true;
            hasKept = true;
            states = 2;
        }

        @Override
        void set(House x) {
            Check.readAll(x, "a");
            x.keep();
            x.read();
            x.differ();
        }
    }

    private static void changesNothing() {
        CHECK.says("Terms", "A call that throws changes nothing;");
        for (Scene scene : new Scene[] {new NewObject(), new NoPattern(), new NoneKept(), new AllFull(),
            new NothingAtAll()}) {
            String due = told(scene.made());
            String name = scene.getClass().getSimpleName() + ": ";
            List<Refused> all = refusedIn(scene);
            for (Refused refused : all) {
                House x = scene.made();
                CHECK.fails(name + refused.name, refused.due, () -> refused.call.on(x));
                CHECK.due(name + "all that is told behind " + refused.name, told(x), due);
            }
        }
    }

    private static List<Refused> refusedIn(Scene scene) {
        List<Refused> all = new ArrayList<>();
        addCounts(all);
        addRoom(all, scene);
        for (int i : with(scene.word)) {
            all.add(new Refused("letter(" + i + ")", INDEX, x -> x.letter(i)));
        }
        if (scene.hasPattern) {
            addPositions(all, scene);
            addFindsAndStates(all, scene);
        } else {
            addNoPattern(all);
        }
        if (!scene.hasKept) {
            all.add(new Refused("differ()", STATE, x -> x.differ()));
        }
        return all;
    }

    private static void addCounts(List<Refused> all) {
        for (int n : NO_COUNTS) {
            all.add(new Refused("type(.., " + n + ")", ARGUMENT, x -> x.type(Check.pack("aaaaaaaa"), n)));
            all.add(new Refused("feed(.., " + n + ")", ARGUMENT, x -> x.feed(Check.pack("aaaaaaaa"), n)));
        }
        for (int at = 0; at < 8; at++) {
            String some = "a".repeat(at) + "|" + "a".repeat(7 - at);
            all.add(new Refused("feed " + some, ARGUMENT, x -> x.feed(Check.pack(some), 8)));
        }
    }

    private static void addRoom(List<Refused> all, Scene scene) {
        for (int n = 1; n <= 8; n++) {
            int count = n;
            if (scene.typed + n > 200) {
                all.add(new Refused("type of " + n, STATE, x -> x.type(Check.pack("aaaaaaaa"), count)));
            }
            if (scene.fed + n > 200) {
                all.add(new Refused("feed of " + n, STATE, x -> x.feed(Check.pack("aaaaaaaa"), count)));
            }
        }
    }

    private static void addPositions(List<Refused> all, Scene scene) {
        for (int p : with(scene.positions)) {
            all.add(new Refused("is(" + p + ", 0)", INDEX, x -> x.is(p, 0)));
            all.add(new Refused("is(" + p + ", 2)", INDEX, x -> x.is(p, 2)));
            all.add(new Refused("follows(" + p + ", 0)", INDEX, x -> x.follows(p, 0)));
            all.add(new Refused("follows(0, " + p + ")", INDEX, x -> x.follows(0, p)));
            all.add(new Refused("has(" + p + ", 0)", INDEX, x -> x.has(p, 0)));
        }
        for (int letter : with(36)) {
            all.add(new Refused("has(0, " + letter + ")", INDEX, x -> x.has(0, letter)));
        }
        for (int what : with(2)) {
            all.add(new Refused("is(0, " + what + ")", scene.positions > 0 ? ARGUMENT : INDEX, x -> x.is(0, what)));
        }
    }

    private static void addFindsAndStates(List<Refused> all, Scene scene) {
        for (int i : with(scene.finds)) {
            all.add(new Refused("find(" + i + ", false)", INDEX, x -> x.find(i, false)));
            all.add(new Refused("find(" + i + ", true)", INDEX, x -> x.find(i, true)));
        }
        for (int s : with(scene.states)) {
            all.add(new Refused("next(" + s + ", 0)", INDEX, x -> x.next(s, 0)));
            all.add(new Refused("good(" + s + ")", INDEX, x -> x.good(s)));
        }
        for (int letter : with(36)) {
            all.add(new Refused("next(0, " + letter + ")", INDEX, x -> x.next(0, letter)));
        }
    }

    private static void addNoPattern(List<Refused> all) {
        all.add(new Refused("positions()", STATE, x -> x.positions()));
        all.add(new Refused("empty()", STATE, x -> x.empty()));
        all.add(new Refused("is(0, 0)", STATE, x -> x.is(0, 0)));
        all.add(new Refused("follows(0, 0)", STATE, x -> x.follows(0, 0)));
        all.add(new Refused("has(0, 0)", STATE, x -> x.has(0, 0)));
        all.add(new Refused("whole()", STATE, x -> x.whole()));
        all.add(new Refused("finds()", STATE, x -> x.finds()));
        all.add(new Refused("find(0, false)", STATE, x -> x.find(0, false)));
        all.add(new Refused("states()", STATE, x -> x.states()));
        all.add(new Refused("next(0, 0)", STATE, x -> x.next(0, 0)));
        all.add(new Refused("good(0)", STATE, x -> x.good(0)));
        all.add(new Refused("classes()", STATE, x -> x.classes()));
        all.add(new Refused("keep()", STATE, x -> x.keep()));
    }

    /** The indices that there are never, and the first one behind those that there are. */
    private static int[] with(int count) {
        return new int[] {NO_INDICES[0], NO_INDICES[1], count, count + 1, NO_INDICES[2]};
    }

    /** All that calls tell of an object: what was asked last is what changes it. */
    private static String told(House x) {
        StringBuilder all = new StringBuilder();
        tell(all, x, h -> h.place());
        for (int i = 0; i < 4; i++) {
            int at = i;
            tell(all, x, h -> h.letter(at));
        }
        tell(all, x, h -> Told.layout(h));
        tell(all, x, h -> Told.letters(h, 0));
        tell(all, x, h -> h.whole());
        tell(all, x, h -> Check.finds(h));
        tell(all, x, h -> h.states());
        tell(all, x, h -> h.next(0, 0));
        tell(all, x, h -> h.good(1));
        tell(all, x, h -> h.classes());
        tell(all, x, h -> h.differ());
        tell(all, x, h -> h.letter(0));
        tell(all, x, h -> h.read());
        tell(all, x, h -> h.place());
        tell(all, x, h -> Told.layout(h));
        tell(all, x, h -> h.differ());
        tell(all, x, h -> h.letter(0));
        tell(all, x, h -> h.type('a', 1));
        tell(all, x, h -> h.clear());
        return all.toString();
    }

    private static void tell(StringBuilder all, House x, Call call) {
        try {
            all.append(call.on(x)).append("; ");
        } catch (RuntimeException e) {
            all.append(e.getClass().getSimpleName()).append("; ");
        }
    }

    private static void theOneNamedFirst() {
        CHECK.says("Terms", "of several exceptions the one named first is thrown.");
        House none = new House();
        CHECK.noState("no pattern, position and what", () -> none.is(-1, 2));
        CHECK.noState("no pattern and positions", () -> none.follows(-1, -1));
        CHECK.noState("no pattern, position and letter", () -> none.has(-1, 36));
        CHECK.noState("no pattern and find", () -> none.find(-1, false));
        CHECK.noState("no pattern, state and letter", () -> none.next(-1, 36));
        CHECK.noState("no pattern and state", () -> none.good(-1));
        House x = CHECK.pattern("ab");
        CHECK.noIndex("position and what", () -> x.is(2, 2));
        CHECK.noIndex("position and what", () -> x.is(-1, -1));
        Check.typeAll(x, "|".repeat(200));
        CHECK.text(x, "a".repeat(200));
        CHECK.noArgument("no room to type, and 0", () -> x.type('a', 0));
        CHECK.noArgument("no room to type, and 9", () -> x.type('a', 9));
        CHECK.noArgument("no room to feed, and 0", () -> x.feed('a', 0));
        CHECK.noArgument("no room to feed, and 9", () -> x.feed('a', 9));
        CHECK.noArgument("no room to feed, and no letter", () -> x.feed('A', 1));
        CHECK.noArgument("no room to feed, and no letter at the end", () -> x.feed(Check.pack("aaaaaaa "), 8));
    }

    private static void noSuchPosition() {
        CHECK.says("Terms", NO_SUCH);
        House x = CHECK.pattern("a".repeat(60));
        CHECK.due("the highest", x.is(59, 1) && x.follows(58, 59) && x.has(59, 0), true);
        for (int p : with(60)) {
            CHECK.noIndex("is " + p, () -> x.is(p, 0));
            CHECK.noIndex("follows " + p, () -> x.follows(p, 0));
            CHECK.noIndex("follows to " + p, () -> x.follows(0, p));
            CHECK.noIndex("has " + p, () -> x.has(p, 0));
        }
        House y = CHECK.pattern("");
        CHECK.noIndex("is of none", () -> y.is(0, 0));
        CHECK.noIndex("follows of none", () -> y.follows(0, 0));
        CHECK.noIndex("has of none", () -> y.has(0, 0));
    }

    private static void noSuchLetter() {
        CHECK.says("Terms", NO_SUCH);
        House x = CHECK.pattern("[^a-8]");
        CHECK.due("the least and the greatest", !x.has(0, 0) && x.has(0, 35), true);
        CHECK.due("ways of both", x.next(0, 0) + " " + x.next(0, 35), "1 2");
        for (int letter : with(36)) {
            CHECK.noIndex("has letter " + letter, () -> x.has(0, letter));
            CHECK.noIndex("next by letter " + letter, () -> x.next(0, letter));
        }
    }

    private static void noSuchFind() {
        CHECK.says("Terms", NO_SUCH);
        House x = CHECK.pattern(".");
        CHECK.text(x, "a".repeat(200));
        CHECK.due("the last", x.find(199, false) + "-" + x.find(199, true), "199-200");
        for (int i : with(200)) {
            CHECK.noIndex("find " + i, () -> x.find(i, false));
            CHECK.noIndex("end of find " + i, () -> x.find(i, true));
        }
    }

    private static void noSuchPlace() {
        CHECK.says("Terms", NO_SUCH);
        House x = CHECK.pattern("ab");
        x.keep();
        CHECK.pattern(x, "ac");
        CHECK.due("differ", x.differ(), 2);
        CHECK.due("the last letter", x.letter(1), 1);
        CHECK.due("the last state", x.good(3), true);
        for (int i : with(2)) {
            CHECK.noIndex("letter " + i, () -> x.letter(i));
        }
        for (int s : with(4)) {
            CHECK.noIndex("next from " + s, () -> x.next(s, 0));
            CHECK.noIndex("good of " + s, () -> x.good(s));
        }
    }

    private static void anotherNumber() {
        CHECK.says("Terms", "IllegalArgumentException: another number is not as said.");
        House x = CHECK.pattern("ab");
        for (int n : NO_COUNTS) {
            CHECK.noArgument("type with n " + n, () -> x.type(Check.pack("aaaaaaaa"), n));
            CHECK.noArgument("feed with n " + n, () -> x.feed(Check.pack("aaaaaaaa"), n));
        }
        for (int what : with(2)) {
            CHECK.noArgument("is with what " + what, () -> x.is(0, what));
        }
    }

    private static void noRoom() {
        CHECK.says("Terms", NO_ROOM_OR_PATTERN);
        House x = new House();
        Check.typeAll(x, "|".repeat(199));
        CHECK.text(x, "a".repeat(199));
        CHECK.noState("two characters more", () -> x.type(Check.pack("ab"), 2));
        CHECK.noState("two letters more", () -> x.feed(Check.pack("ab"), 2));
        CHECK.due("one character more", x.type('a', 1), 200);
        CHECK.due("one letter more", x.feed('a', 1), 200);
        CHECK.noState("yet one character more", () -> x.type('a', 1));
        CHECK.noState("yet one letter more", () -> x.feed('a', 1));
    }

    private static void noPattern() {
        CHECK.says("Terms", NO_ROOM_OR_PATTERN);
        House x = new House();
        List<Refused> all = new ArrayList<>();
        addNoPattern(all);
        for (Refused refused : all) {
            CHECK.fails(refused.name, STATE, () -> refused.call.on(x));
        }
        CHECK.noState("differ()", () -> x.differ());
    }

    private static void noneKept() {
        CHECK.says("Terms", NO_ROOM_OR_PATTERN);
        House x = CHECK.pattern("a");
        CHECK.noState("differ()", () -> x.differ());
        x.keep();
        CHECK.due("differ()", x.differ(), PatternHouse.NONE);
    }
}

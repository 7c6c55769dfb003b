/** Patterns of letters, as the document ../shared/DOC.md promises them; README.md tells how to use it. */
public final class PatternHouse {
    public static final int NONE = -1;

    private static final int BEYOND = -2;
    private static final int LETTERS = 36;
    private static final int MOST_BYTES = 8;
    private static final int MOST_CHARACTERS = 200;
    private static final int MOST_POSITIONS = 60;
    private static final int MOST_BRACKETS = 8;
    private static final int MOST_TIMES = 5;
    private static final int MOST_STATES = 300;

    private final Reader reader;
    private final Text text;
    private final Register register;
    private final Grouping grouping;
    private final Comparison comparison;
    /** Three, so that one is always free to be read into while another is the pattern and a third is kept. */
    private final Pattern[] patterns;
    private Pattern current;
    private Pattern kept;

    public PatternHouse() {
        reader = new Reader();
        text = new Text();
        register = new Register();
        grouping = new Grouping();
        comparison = new Comparison();
        patterns = new Pattern[] {new Pattern(), new Pattern(), new Pattern()};
    }

    public int type(long w, int n) throws IllegalArgumentException, IllegalStateException {
        if (n < 1 || n > MOST_BYTES) {
            throw new IllegalArgumentException();
        }
        if (reader.length + n > MOST_CHARACTERS) {
            throw new IllegalStateException();
        }
        reader.append(w, n);
        return reader.length;
    }

    public int read() {
        Pattern free = freePattern();
        int fault = reader.layOut(free);
        if (fault == 0) {
            current = free;
            text.forgetFinds();
        }
        return fault;
    }

    public int place() {
        return reader.faultPlace;
    }

    public int positions() throws IllegalStateException {
        return thePattern().size;
    }

    public boolean empty() throws IllegalStateException {
        return thePattern().hasEmptyWord;
    }

    public boolean is(int position, int what)
            throws IllegalStateException, IndexOutOfBoundsException, IllegalArgumentException {
        Pattern pattern = thePattern();
        if (position < 0 || position >= pattern.size) {
            throw new IndexOutOfBoundsException();
        }
        if (what != 0 && what != 1) {
            throw new IllegalArgumentException();
        }
        return holds(what == 0 ? pattern.firsts : pattern.lasts, position);
    }

    public boolean follows(int p, int q) throws IllegalStateException, IndexOutOfBoundsException {
        Pattern pattern = thePattern();
        if (p < 0 || p >= pattern.size || q < 0 || q >= pattern.size) {
            throw new IndexOutOfBoundsException();
        }
        return holds(pattern.behind[p], q);
    }

    public boolean has(int position, int letter) throws IllegalStateException, IndexOutOfBoundsException {
        Pattern pattern = thePattern();
        if (position < 0 || position >= pattern.size || letter < 0 || letter >= LETTERS) {
            throw new IndexOutOfBoundsException();
        }
        return holds(pattern.lettersOf[position], letter);
    }

    public int feed(long w, int n) throws IllegalArgumentException, IllegalStateException {
        if (n < 1 || n > MOST_BYTES || !allLetters(w, n)) {
            throw new IllegalArgumentException();
        }
        if (text.length + n > MOST_CHARACTERS) {
            throw new IllegalStateException();
        }
        text.append(w, n);
        return text.length;
    }

    public int clear() {
        int had = text.length;
        text.cutOff();
        return had;
    }

    public boolean whole() throws IllegalStateException {
        return text.isWordOf(thePattern());
    }

    public int finds() throws IllegalStateException {
        text.lookFor(thePattern());
        return text.found;
    }

    public int find(int i, boolean ends) throws IllegalStateException, IndexOutOfBoundsException {
        text.lookFor(thePattern());
        if (i < 0 || i >= text.found) {
            throw new IndexOutOfBoundsException();
        }
        return ends ? text.ends[i] : text.begins[i];
    }

    public int states() throws IllegalStateException {
        return automatonOf(thePattern()).size;
    }

    public int next(int state, int letter) throws IllegalStateException, IndexOutOfBoundsException {
        Automaton automaton = automatonOf(thePattern());
        if (state < 0 || state >= automaton.size || letter < 0 || letter >= LETTERS) {
            throw new IndexOutOfBoundsException();
        }
        return automaton.wayFrom(state, letter);
    }

    public boolean good(int state) throws IllegalStateException, IndexOutOfBoundsException {
        Automaton automaton = automatonOf(thePattern());
        if (state < 0 || state >= automaton.size) {
            throw new IndexOutOfBoundsException();
        }
        return automaton.isGood[state];
    }

    public int classes() throws IllegalStateException {
        Automaton automaton = automatonOf(thePattern());
        if (automaton.goesBeyond) {
            return NONE;
        }
        if (automaton.groups == NONE) {
            automaton.groups = grouping.countGroups(automaton, register);
        }
        return automaton.groups;
    }

    public void keep() throws IllegalStateException {
        kept = thePattern();
    }

    public int differ() throws IllegalStateException {
        Pattern pattern = thePattern();
        if (kept == null) {
            throw new IllegalStateException();
        }
        return comparison.compare(automatonOf(pattern), automatonOf(kept));
    }

    public int letter(int i) throws IndexOutOfBoundsException {
        if (i < 0 || i >= comparison.wordLength) {
            throw new IndexOutOfBoundsException();
        }
        return comparison.word[i];
    }

    private Pattern thePattern() {
        if (current == null) {
            throw new IllegalStateException();
        }
        return current;
    }

    private Pattern freePattern() {
        int free = 0;
        for (int i = 0; i < patterns.length; i++) {
            if (patterns[i] != current && patterns[i] != kept) {
                free = i;
            }
        }
        return patterns[free];
    }

    private Automaton automatonOf(Pattern pattern) {
        Automaton automaton = pattern.automaton;
        if (!automaton.isBuilt) {
            automaton.build(pattern, register);
        }
        return automaton;
    }

    private static int byteOf(long w, int i) {
        return (int) (w >>> (8 * i)) & 255;
    }

    private static int letterOf(int character) {
        if (character >= 'a' && character <= 'z') {
            return character - 'a';
        }
        if (character >= '0' && character <= '9') {
            return character - '0' + 26;
        }
        return NONE;
    }

    private static boolean allLetters(long w, int n) {
        for (int i = 0; i < n; i++) {
            if (letterOf(byteOf(w, i)) == NONE) {
                return false;
            }
        }
        return true;
    }

    private static boolean holds(long set, int member) {
        return (set >>> member & 1L) != 0;
    }

    /** A pattern laid out: sets of positions, and sets of letters, are the bits of a long. */
    private static final class Pattern {
        int size;
        boolean hasEmptyWord;
        long firsts;
        long lasts;
        final long[] behind = new long[MOST_POSITIONS];
        final long[] lettersOf = new long[MOST_POSITIONS];
        final long[] havers = new long[LETTERS];
        final Automaton automaton = new Automaton();

        void wipe() {
            size = 0;
            automaton.isBuilt = false;
        }

        void addPosition(long letters) {
            lettersOf[size] = letters;
            behind[size] = 0;
            size++;
        }

        /** Lays the positions from a place to the end out again, so that they stand there some times in all. */
        void copyPositions(int from, int times) {
            int width = size - from;
            for (int copy = 1; copy < times; copy++) {
                for (int p = from; p < from + width; p++) {
                    lettersOf[p + copy * width] = lettersOf[p];
                    behind[p + copy * width] = behind[p] << (copy * width);
                }
            }
            size = from + width * times;
        }

        void connect(long ends, long begins) {
            for (int p = 0; p < size; p++) {
                if ((ends >>> p & 1L) != 0) {
                    behind[p] |= begins;
                }
            }
        }

        void complete(Piece all) {
            hasEmptyWord = all.hasEmptyWord;
            firsts = all.firsts;
            lasts = all.lasts;
            for (int letter = 0; letter < LETTERS; letter++) {
                havers[letter] = haversOf(letter);
            }
        }

        private long haversOf(int letter) {
            long set = 0;
            for (int p = 0; p < size; p++) {
                if (holds(lettersOf[p], letter)) {
                    set |= 1L << p;
                }
            }
            return set;
        }

        long behindAny(long set) {
            long all = 0;
            for (int p = 0; p < size; p++) {
                if (holds(set, p)) {
                    all |= behind[p];
                }
            }
            return all;
        }
    }

    /** What is known of a stretch of a pattern whose positions are laid out from a place on. */
    private static final class Piece {
        int from;
        boolean hasEmptyWord;
        long firsts;
        long lasts;

        void set(int place, boolean withEmptyWord, long begins, long ends) {
            from = place;
            hasEmptyWord = withEmptyWord;
            firsts = begins;
            lasts = ends;
        }

        void append(Piece other, Pattern pattern) {
            pattern.connect(lasts, other.firsts);
            firsts = hasEmptyWord ? firsts | other.firsts : firsts;
            lasts = other.hasEmptyWord ? lasts | other.lasts : other.lasts;
            hasEmptyWord = hasEmptyWord && other.hasEmptyWord;
        }

        void orElse(Piece other) {
            firsts |= other.firsts;
            lasts |= other.lasts;
            hasEmptyWord = hasEmptyWord || other.hasEmptyWord;
        }
    }

    /**
     * Lays a pattern out while it is read. The latest part stays apart from its row until the next
     * one begins, as suffixes may still come: so its positions lead to none but its own, and can be
     * copied by a shift.
     */
    private static final class Layer {
        int depth;
        boolean hasPart;
        private Pattern pattern;
        private final Piece part = new Piece();
        private final Piece copy = new Piece();
        private final Piece[] rows = new Piece[MOST_BRACKETS + 1];
        private final Piece[] choices = new Piece[MOST_BRACKETS + 1];

        Layer() {
            for (int i = 0; i <= MOST_BRACKETS; i++) {
                rows[i] = new Piece();
                choices[i] = new Piece();
            }
        }

        void begin(Pattern target) {
            pattern = target;
            pattern.wipe();
            depth = 0;
            beginChoices();
        }

        private void beginChoices() {
            choices[depth].set(pattern.size, false, 0, 0);
            beginRow();
        }

        private void beginRow() {
            rows[depth].set(pattern.size, true, 0, 0);
            hasPart = false;
        }

        private void endPart() {
            if (hasPart) {
                rows[depth].append(part, pattern);
            }
        }

        void endRow() {
            endPart();
            choices[depth].orElse(rows[depth]);
            beginRow();
        }

        /** Whether there was room for it. */
        boolean addAtom(long letters) {
            if (pattern.size >= MOST_POSITIONS) {
                return false;
            }
            endPart();
            long itself = 1L << pattern.size;
            part.set(pattern.size, false, itself, itself);
            pattern.addPosition(letters);
            hasPart = true;
            return true;
        }

        /** Whether it may stand in that many brackets. */
        boolean openBracket() {
            if (depth >= MOST_BRACKETS) {
                return false;
            }
            endPart();
            depth++;
            beginChoices();
            return true;
        }

        /** Makes a part of the choices, whose last row has been ended. */
        void closeBracket() {
            Piece inside = choices[depth];
            part.set(inside.from, inside.hasEmptyWord, inside.firsts, inside.lasts);
            depth--;
            hasPart = true;
        }

        void allowMore() {
            pattern.connect(part.lasts, part.firsts);
        }

        void allowNone() {
            part.hasEmptyWord = true;
        }

        /** Whether there was room for it. */
        boolean repeat(int least, int most) {
            int width = pattern.size - part.from;
            if (part.from + width * most > MOST_POSITIONS) {
                return false;
            }
            boolean withEmptyWord = part.hasEmptyWord;
            long firsts = part.firsts;
            long lasts = part.lasts;
            // all copies are laid out before any two are joined: joined ones lead out of themselves
            pattern.copyPositions(part.from, most);
            part.hasEmptyWord = withEmptyWord || least == 0;
            for (int i = 1; i < most; i++) {
                int shift = i * width;
                copy.set(part.from + shift, withEmptyWord || i >= least, firsts << shift, lasts << shift);
                part.append(copy, pattern);
            }
            return true;
        }

        void finish() {
            endRow();
            pattern.complete(choices[0]);
        }
    }

    /** Holds what is typed, and reads it, one character at a time. */
    private static final class Reader {
        private static final int CANNOT_BE_THERE = 1;
        private static final int ENDS_TOO_SOON = 2;
        private static final int WRONG_TIMES = 3;
        private static final int TOO_MANY_POSITIONS = 4;
        private static final int TOO_DEEP = 5;
        private static final int WRONG_WAY_ROUND = 6;

        private static final int IN_ROW = 0;
        private static final int SET_OPENED = 1;
        private static final int SET_NEGATED = 2;
        private static final int SET_LETTER = 3;
        private static final int SET_DASH = 4;
        private static final int SET_RANGE = 5;
        private static final int TIMES_OPENED = 6;
        private static final int TIMES_LEAST = 7;
        private static final int TIMES_COMMA = 8;
        private static final int TIMES_MOST = 9;

        private static final long ALL_LETTERS = (1L << LETTERS) - 1;

        int length;
        int faultPlace = NONE;
        private final int[] characters = new int[MOST_CHARACTERS];
        private final Layer layer = new Layer();
        private int fault;
        private int mode;
        private int openedAt;
        private long set;
        private boolean negated;
        private int latestLetter;
        private int latestAt;
        private int least;
        private int most;

        void append(long w, int n) {
            for (int i = 0; i < n && length < MOST_CHARACTERS; i++) {
                characters[length] = byteOf(w, i);
                length++;
            }
        }

        int layOut(Pattern target) {
            fault = 0;
            faultPlace = NONE;
            mode = IN_ROW;
            layer.begin(target);
            for (int at = 0; at < length && fault == 0; at++) {
                int c = characters[at];
                if (mode == IN_ROW) {
                    takeInRow(at, c);
                } else if (mode <= SET_RANGE) {
                    takeInSet(at, c);
                } else {
                    takeInTimes(at, c);
                }
            }
            if (fault == 0 && (mode != IN_ROW || layer.depth > 0)) {
                fail(ENDS_TOO_SOON, length);
            }
            if (fault == 0) {
                layer.finish();
            }
            length = 0;
            return fault;
        }

        private void fail(int number, int at) {
            fault = number;
            faultPlace = at;
        }

        private void failUnless(boolean done, int number, int at) {
            if (!done) {
                fail(number, at);
            }
        }

        private void takeInRow(int at, int c) {
            int letter = letterOf(c);
            if (letter != NONE) {
                failUnless(layer.addAtom(1L << letter), TOO_MANY_POSITIONS, at);
            } else if (c == '.') {
                failUnless(layer.addAtom(ALL_LETTERS), TOO_MANY_POSITIONS, at);
            } else if (c == '[') {
                openSet(at);
            } else if (c == '(') {
                failUnless(layer.openBracket(), TOO_DEEP, at);
            } else if (c == '|') {
                layer.endRow();
            } else if (c == ')' && layer.depth > 0) {
                layer.endRow();
                layer.closeBracket();
            } else if (layer.hasPart) {
                takeSuffix(at, c);
            } else {
                fail(CANNOT_BE_THERE, at);
            }
        }

        private void takeSuffix(int at, int c) {
            switch (c) {
                case '*':
                    layer.allowMore();
                    layer.allowNone();
                    break;
                case '+':
                    layer.allowMore();
                    break;
                case '?':
                    layer.allowNone();
                    break;
                case '{':
                    openedAt = at;
                    mode = TIMES_OPENED;
                    break;
                default:
                    fail(CANNOT_BE_THERE, at);
            }
        }

        private void openSet(int at) {
            openedAt = at;
            set = 0;
            negated = false;
            mode = SET_OPENED;
        }

        private void takeInSet(int at, int c) {
            int letter = letterOf(c);
            if (letter != NONE) {
                takeSetLetter(at, letter);
            } else if (c == '^' && mode == SET_OPENED) {
                negated = true;
                mode = SET_NEGATED;
            } else if (c == '-' && mode == SET_LETTER) {
                mode = SET_DASH;
            } else if (c == ']' && (mode == SET_LETTER || mode == SET_RANGE)) {
                mode = IN_ROW;
                failUnless(layer.addAtom(negated ? ALL_LETTERS & ~set : set), TOO_MANY_POSITIONS, openedAt);
            } else {
                fail(CANNOT_BE_THERE, at);
            }
        }

        private void takeSetLetter(int at, int letter) {
            if (mode != SET_DASH) {
                set |= 1L << letter;
                latestLetter = letter;
                latestAt = at;
                mode = SET_LETTER;
            } else if (latestLetter > letter) {
                fail(WRONG_WAY_ROUND, latestAt);
            } else {
                set |= (2L << letter) - (1L << latestLetter);
                mode = SET_RANGE;
            }
        }

        private void takeInTimes(int at, int c) {
            boolean isDigit = c >= '0' && c <= '9';
            if (isDigit && mode == TIMES_OPENED) {
                least = c - '0';
                most = least;
                mode = TIMES_LEAST;
            } else if (c == ',' && mode == TIMES_LEAST) {
                mode = TIMES_COMMA;
            } else if (isDigit && mode == TIMES_COMMA) {
                most = c - '0';
                mode = TIMES_MOST;
            } else if (c == '}' && (mode == TIMES_LEAST || mode == TIMES_MOST)) {
                mode = IN_ROW;
                closeTimes();
            } else {
                fail(CANNOT_BE_THERE, at);
            }
        }

        private void closeTimes() {
            if (least > most || most > MOST_TIMES || most == 0) {
                fail(WRONG_TIMES, openedAt);
            } else {
                failUnless(layer.repeat(least, most), TOO_MANY_POSITIONS, openedAt);
            }
        }
    }

    /** The text, and its finds, which stay known until the text or the pattern is another. */
    private static final class Text {
        int length;
        int found;
        final int[] begins = new int[MOST_CHARACTERS];
        final int[] ends = new int[MOST_CHARACTERS];
        private final int[] letters = new int[MOST_CHARACTERS];
        private boolean looked;

        void append(long w, int n) {
            for (int i = 0; i < n && length < MOST_CHARACTERS; i++) {
                letters[length] = letterOf(byteOf(w, i));
                length++;
            }
            looked = false;
        }

        void cutOff() {
            length = 0;
            looked = false;
        }

        void forgetFinds() {
            looked = false;
        }

        boolean isWordOf(Pattern pattern) {
            boolean isWord = pattern.hasEmptyWord;
            long awaited = pattern.firsts;
            for (int i = 0; i < length; i++) {
                long met = awaited & pattern.havers[letters[i]];
                isWord = (met & pattern.lasts) != 0;
                awaited = pattern.behindAny(met);
            }
            return isWord;
        }

        void lookFor(Pattern pattern) {
            if (looked) {
                return;
            }
            found = 0;
            int free = 0;
            for (int i = 0; i < length; i++) {
                int end = i < free ? NONE : longestEnd(pattern, i);
                if (end != NONE) {
                    begins[found] = i;
                    ends[found] = end;
                    found++;
                    free = end;
                }
            }
            looked = true;
        }

        private int longestEnd(Pattern pattern, int from) {
            int end = NONE;
            long awaited = pattern.firsts;
            for (int i = from; i < length && awaited != 0; i++) {
                long met = awaited & pattern.havers[letters[i]];
                if ((met & pattern.lasts) != 0) {
                    end = i + 1;
                }
                awaited = pattern.behindAny(met);
            }
            return end;
        }
    }

    /** Numbers keys in the order in which they are met; a table of slots finds a key again. */
    private static final class Register {
        private static final int SLOTS = 1024;

        int size;
        final long[] keys = new long[MOST_STATES];
        private final int[] slotOf = new int[MOST_STATES];
        /** A key's number and 1, or 0 where there is none. */
        private final int[] slots = new int[SLOTS];

        void forgetAll() {
            for (int i = 0; i < size; i++) {
                slots[slotOf[i]] = 0;
            }
            size = 0;
        }

        /** The number of a key; NONE if it is new and there are as many as may be. */
        int numberOf(long key, int limit) {
            int home = homeOf(key);
            for (int i = 0; i < SLOTS; i++) {
                int slot = (home + i) & (SLOTS - 1);
                int number = slots[slot] - 1;
                if (number < 0) {
                    return size < limit && size < MOST_STATES ? enter(key, slot) : NONE;
                }
                if (keys[number] == key) {
                    return number;
                }
            }
            return NONE;
        }

        private int enter(long key, int slot) {
            int number = size;
            keys[number] = key;
            slotOf[number] = slot;
            slots[slot] = number + 1;
            size++;
            return number;
        }

        private static int homeOf(long key) {
            long mixed = key * 0x9E3779B97F4A7C15L;
            return (int) (mixed >>> 54);
        }
    }

    /** The automaton of a pattern; state 0 is the beginning, state s the set that was met as number s - 1. */
    private static final class Automaton {
        boolean isBuilt;
        boolean goesBeyond;
        int size;
        /** How many classes of states there are; NONE while they are not counted. */
        int groups;
        final boolean[] isGood = new boolean[MOST_STATES];
        private final int[] ways = new int[MOST_STATES * LETTERS];

        int wayFrom(int state, int letter) {
            return ways[state * LETTERS + letter];
        }

        void build(Pattern pattern, Register sets) {
            sets.forgetAll();
            goesBeyond = false;
            groups = NONE;
            size = 1;
            isGood[0] = pattern.hasEmptyWord;
            layWays(0, pattern.firsts, pattern, sets);
            for (int state = 1; state < size && state < MOST_STATES; state++) {
                long set = sets.keys[state - 1];
                isGood[state] = (set & pattern.lasts) != 0;
                layWays(state, pattern.behindAny(set), pattern, sets);
            }
            isBuilt = true;
        }

        private void layWays(int state, long awaited, Pattern pattern, Register sets) {
            for (int letter = 0; letter < LETTERS; letter++) {
                int number = sets.numberOf(awaited & pattern.havers[letter], MOST_STATES - 1);
                ways[state * LETTERS + letter] = number == NONE ? NONE : number + 1;
                goesBeyond = goesBeyond || number == NONE;
            }
            size = sets.size + 1;
        }
    }

    /** Parts states into classes: from good and not good on, by one letter after the other, until none parts more. */
    private static final class Grouping {
        private final int[] groupOf = new int[MOST_STATES];
        private final int[] finerOf = new int[MOST_STATES];

        int countGroups(Automaton automaton, Register pairs) {
            int groups = groupByGood(automaton, pairs);
            // each round but the last makes a group more, and there are no more groups than states
            for (int round = 0; round < automaton.size; round++) {
                int before = groups;
                for (int letter = 0; letter < LETTERS; letter++) {
                    groups = groupByWay(automaton, letter, pairs);
                }
                if (groups == before) {
                    break;
                }
            }
            return groups;
        }

        private int groupByGood(Automaton automaton, Register pairs) {
            pairs.forgetAll();
            for (int s = 0; s < automaton.size; s++) {
                groupOf[s] = pairs.numberOf(automaton.isGood[s] ? 1 : 0, MOST_STATES);
            }
            return pairs.size;
        }

        private int groupByWay(Automaton automaton, int letter, Register pairs) {
            pairs.forgetAll();
            for (int s = 0; s < automaton.size; s++) {
                long target = groupOf[automaton.wayFrom(s, letter)];
                finerOf[s] = pairs.numberOf(groupOf[s] * (long) MOST_STATES + target, MOST_STATES);
            }
            System.arraycopy(finerOf, 0, groupOf, 0, automaton.size);
            return pairs.size;
        }
    }

    /**
     * Looks for the first word that tells two automata apart, by pairs of states that one word leads to,
     * the shorter and lesser words first. States that were paired are of one family; a pair within a
     * family is passed over: a word that tells it apart tells one of the earlier pairs apart that made the
     * family, and that pair was met by a lesser word. So there are no more pairs than states.
     */
    private static final class Comparison {
        private static final int MOST_PAIRS = 2 * MOST_STATES;

        int wordLength;
        final int[] word = new int[MOST_PAIRS];
        private final int[] familyOf = new int[MOST_PAIRS];
        private int pairs;
        private final int[] lefts = new int[MOST_PAIRS];
        private final int[] rights = new int[MOST_PAIRS];
        private final int[] cameFrom = new int[MOST_PAIRS];
        private final int[] byLetter = new int[MOST_PAIRS];
        private final int[] lengths = new int[MOST_PAIRS];

        int compare(Automaton left, Automaton right) {
            wordLength = 0;
            if (left.goesBeyond || right.goesBeyond) {
                return BEYOND;
            }
            begin();
            if (left.isGood[0] != right.isGood[0]) {
                return 0;
            }
            for (int i = 0; i < pairs && i < MOST_PAIRS; i++) {
                if (tellsApart(i, left, right)) {
                    spell(pairs - 1);
                    return wordLength;
                }
            }
            return NONE;
        }

        private void begin() {
            for (int i = 0; i < MOST_PAIRS; i++) {
                familyOf[i] = i;
            }
            pairs = 0;
            join(0, 0);
            lengths[0] = 0;
        }

        /** Meets the pairs behind a pair, until one is good on one side alone: then that is the latest pair. */
        private boolean tellsApart(int pair, Automaton left, Automaton right) {
            for (int letter = 0; letter < LETTERS; letter++) {
                int p = left.wayFrom(lefts[pair], letter);
                int q = right.wayFrom(rights[pair], letter);
                if (familyOf[p] != familyOf[MOST_STATES + q] && pairs < MOST_PAIRS) {
                    cameFrom[pairs] = pair;
                    byLetter[pairs] = letter;
                    lengths[pairs] = lengths[pair] + 1;
                    join(p, q);
                    if (left.isGood[p] != right.isGood[q]) {
                        return true;
                    }
                }
            }
            return false;
        }

        private void join(int p, int q) {
            lefts[pairs] = p;
            rights[pairs] = q;
            pairs++;
            int old = familyOf[MOST_STATES + q];
            int family = familyOf[p];
            for (int i = 0; i < MOST_PAIRS; i++) {
                if (familyOf[i] == old) {
                    familyOf[i] = family;
                }
            }
        }

        private void spell(int pair) {
            wordLength = lengths[pair];
            int at = pair;
            for (int i = wordLength - 1; i >= 0; i--) {
                word[i] = byLetter[at];
                at = cameFrom[at];
            }
        }
    }
}

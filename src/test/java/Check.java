/** Counts the answers of a test that are not as due, and tells them. */
final class Check {
    interface Call {
        Object answer();
    }

    private int made;
    private int wrong;

    void due(String what, Object got, Object due) {
        made++;
        if (!got.equals(due)) {
            wrong++;
            System.out.println(what + " answered " + got + ", due is " + due);
        }
    }

    void fails(String what, Class<? extends RuntimeException> due, Call call) {
        Object got;
        try {
            got = call.answer();
        } catch (RuntimeException e) {
            got = e.getClass();
        }
        due(what, got, due);
    }

    void noState(String what, Call call) {
        fails(what, IllegalStateException.class, call);
    }

    void noIndex(String what, Call call) {
        fails(what, IndexOutOfBoundsException.class, call);
    }

    void noArgument(String what, Call call) {
        fails(what, IllegalArgumentException.class, call);
    }

    /** Types and reads a pattern that has no fault. */
    PatternHouse pattern(PatternHouse house, String pattern) {
        due("fault of " + pattern, readAll(house, pattern), 0);
        return house;
    }

    PatternHouse pattern(String pattern) {
        return pattern(new PatternHouse(), pattern);
    }

    void text(PatternHouse house, String text) {
        house.clear();
        for (int i = 0; i < text.length(); i += 8) {
            String some = text.substring(i, Math.min(text.length(), i + 8));
            house.feed(pack(some), some.length());
        }
    }

    static int readAll(PatternHouse house, String pattern) {
        typeAll(house, pattern);
        return house.read();
    }

    static void typeAll(PatternHouse house, String pattern) {
        for (int i = 0; i < pattern.length(); i += 8) {
            String some = pattern.substring(i, Math.min(pattern.length(), i + 8));
            house.type(pack(some), some.length());
        }
    }

    static long pack(String characters) {
        long w = 0;
        for (int i = characters.length() - 1; i >= 0; i--) {
            w = w << 8 | characters.charAt(i) & 255;
        }
        return w;
    }

    /** The word that the latest differ() found, as characters. */
    static String word(PatternHouse house, int length) {
        StringBuilder word = new StringBuilder();
        for (int i = 0; i < length; i++) {
            word.append("abcdefghijklmnopqrstuvwxyz0123456789".charAt(house.letter(i)));
        }
        return word.toString();
    }

    /** Every find as its beginning and end. */
    static String finds(PatternHouse house) {
        StringBuilder all = new StringBuilder();
        for (int i = 0; i < house.finds(); i++) {
            all.append(house.find(i, false)).append('-').append(house.find(i, true)).append(' ');
        }
        return all.toString().trim();
    }

    void end() {
        System.out.println(made + " checks, " + wrong + " wrong");
        if (wrong != 0) {
            System.exit(1);
        }
    }
}

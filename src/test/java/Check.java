/** Counts the answers of a test that are not as due, and tells them. */
final class Check {
    interface Call {
        Object answer();
    }

    private final Document document = new Document();
    private String sentence = "";
    private int made;
    private int wrong;

    void due(String what, Object got, Object due) {
        made++;
        if (!got.equals(due)) {
            wrong++;
            System.out.println(sentence + what + " answered " + got + ", due is " + due);
        }
    }

    /** What is checked from here on is what the document says in that section by these words. */
    void says(String section, String words) {
        sentence = "";
        if (document.isThere()) {
            due("whether " + section + " says: " + words, document.says(section, words), true);
        }
        sentence = section + " says: " + words + "\n    ";
    }

    /** Every sentence of the Terms and the promises has been quoted. */
    void saysNothingElse() {
        sentence = "";
        due("what no test quotes of the document", document.unquoted().toString(), "[]");
    }

    void fails(String what, Class<? extends RuntimeException> due, Call call) {
        Object got;
        try {
            got = call.answer();
        } catch (RuntimeException e) {
            got = e.getClass();
        }
        due(what, got, due);
    }

    /** Whatever the answer is, there is one. */
    void answers(String what, Call call) {
        Object got = "an answer";
        try {
            call.answer();
        } catch (RuntimeException e) {
            got = e.getClass();
        }
        due(what, got, "an answer");
    }

    void noState(String what, Call call) {
        fails(what, IllegalStateException.class, call);
    }

    void noIndex(String what, Call call) {
        fails(what, IndexOutOfBoundsException.class, call);
    }

    void noArgument(String what, Call call) {
        fails(what, IllegalArgumentException.class, call);
    }

    /** Types and reads a pattern that has no fault. */
    House pattern(House house, String pattern) {
        due("fault of " + pattern, readAll(house, pattern), 0);
        return house;
    }

    House pattern(String pattern) {
        return pattern(new House(), pattern);
    }

    /** A new object refuses a pattern. */
    void fault(String pattern, int fault, int place) {
        House house = new House();
        due("fault of " + pattern, readAll(house, pattern), fault);
        due("place of the fault in " + pattern, house.place(), place);
    }

    /** Whether a text is a word of a pattern. */
    void word(String pattern, String text, boolean due) {
        House house = pattern(pattern);
        text(house, text);
        due("whether " + text + " is a word of " + pattern, house.whole(), due);
    }

    /** All finds of a pattern in a text. */
    void found(String pattern, String text, String due) {
        House house = pattern(pattern);
        text(house, text);
        due("finds of " + pattern + " in " + text, finds(house), due);
    }

    void text(House house, String text) {
        house.clear();
        for (int i = 0; i < text.length(); i += 8) {
            String some = text.substring(i, Math.min(text.length(), i + 8));
            house.feed(pack(some), some.length());
        }
    }

    static int readAll(House house, String pattern) {
        typeAll(house, pattern);
        return house.read();
    }

    static void typeAll(House house, String pattern) {
        for (int i = 0; i < pattern.length(); i += 8) {
            String some = pattern.substring(i, Math.min(pattern.length(), i + 8));
            house.type(pack(some), some.length());
        }
    }

    static long pack(String characters) {
        long w = 0;
        for (int i = characters.length() - 1; i >= 0; i--) {
            w = w << 8 | characters.charAt(i) & 255;
        }
        return w;
    }

    /** The word that the latest differ() found, as characters. */
    static String word(House house, int length) {
        StringBuilder word = new StringBuilder();
        for (int i = 0; i < length; i++) {
            word.append(Told.LETTERS.charAt(house.letter(i)));
        }
        return word.toString();
    }

    /** Every find as its beginning and end. */
    static String finds(House house) {
        StringBuilder all = new StringBuilder();
        int count = house.finds();
        for (int i = 0; i < count; i++) {
            all.append(house.find(i, false)).append('-').append(house.find(i, true)).append(' ');
        }
        return all.toString().trim();
    }

    void end() {
        System.out.println(made + " checks, " + wrong + " wrong");
        if (wrong != 0) {
            System.exit(1);
        }
    }
}

/** What an object says of its pattern, told as texts. */
final class Told {
    static final String LETTERS = "abcdefghijklmnopqrstuvwxyz0123456789";

    private Told() {
    }

    static String letters(House x, int position) {
        StringBuilder all = new StringBuilder();
        for (int letter = 0; letter < 36; letter++) {
            all.append(x.has(position, letter) ? LETTERS.substring(letter, letter + 1) : "");
        }
        return all.toString();
    }

    static String firsts(House x) {
        return marked(x, 0);
    }

    static String lasts(House x) {
        return marked(x, 1);
    }

    private static String marked(House x, int what) {
        StringBuilder all = new StringBuilder();
        int size = x.positions();
        for (int p = 0; p < size; p++) {
            all.append(x.is(p, what) ? p + " " : "");
        }
        return all.toString().trim();
    }

    /** For each position those that follow it: 0:1,2 1: 2: */
    static String behind(House x) {
        StringBuilder all = new StringBuilder();
        int size = x.positions();
        for (int p = 0; p < size; p++) {
            all.append(p).append(':');
            String comma = "";
            for (int q = 0; q < size; q++) {
                if (x.follows(p, q)) {
                    all.append(comma).append(q);
                    comma = ",";
                }
            }
            all.append(' ');
        }
        return all.toString().trim();
    }

    static String layout(House x) {
        return (x.empty() ? "empty or " : "") + firsts(x) + " / " + lasts(x) + " / " + behind(x);
    }
}

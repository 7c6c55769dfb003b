/**
 * What the document asks of each call in a run of calls, by Reference: the answer, or the class of the exception.
 */
final class Model {
    private static final Object STATE = IllegalStateException.class;
    private static final Object INDEX = IndexOutOfBoundsException.class;
    private static final Object ARGUMENT = IllegalArgumentException.class;
    private static final int MOST = 200;

    private final StringBuilder typed = new StringBuilder();
    private final StringBuilder text = new StringBuilder();
    private Reference now;
    private Reference kept;
    private int place = PatternHouse.NONE;
    private String word = "";

    Object type(long w, int n) {
        if (n < 1 || n > 8) {
            return ARGUMENT;
        }
        if (typed.length() + n > MOST) {
            return STATE;
        }
        return typed.append(unpack(w, n)).length();
    }

    Object read() {
        String pattern = typed.toString();
        typed.setLength(0);
        place = PatternHouse.NONE;
        try {
            now = new Reference(pattern);
            return 0;
        } catch (Reference.Fault e) {
            place = e.place;
            return e.number;
        }
    }

    Object place() {
        return place;
    }

    Object positions() {
        return now == null ? STATE : (Object) now.positions.size();
    }

    Object empty() {
        return now == null ? STATE : (Object) now.empty;
    }

    Object is(int position, int what) {
        if (now == null) {
            return STATE;
        }
        if (!isPosition(position)) {
            return INDEX;
        }
        return what == 0 ? now.first.get(position) : what == 1 ? now.last.get(position) : ARGUMENT;
    }

    Object follows(int p, int q) {
        if (now == null) {
            return STATE;
        }
        return isPosition(p) && isPosition(q) ? now.follow[p].get(q) : INDEX;
    }

    Object has(int position, int letter) {
        if (now == null) {
            return STATE;
        }
        return isPosition(position) && isLetter(letter) ? now.positions.get(position).letters.get(letter) : INDEX;
    }

    Object feed(long w, int n) {
        if (n < 1 || n > 8 || !unpack(w, n).matches("[a-z0-9]*")) {
            return ARGUMENT;
        }
        if (text.length() + n > MOST) {
            return STATE;
        }
        return text.append(unpack(w, n)).length();
    }

    Object clear() {
        int had = text.length();
        text.setLength(0);
        return had;
    }

    Object whole() {
        return now == null ? STATE : (Object) now.whole(text.toString());
    }

    Object finds() {
        return now == null ? STATE : (Object) allFinds().length;
    }

    Object find(int i, boolean ends) {
        if (now == null) {
            return STATE;
        }
        String[] all = allFinds();
        return i < 0 || i >= all.length ? INDEX : (Object) Integer.valueOf(all[i].split("-")[ends ? 1 : 0]);
    }

    Object states() {
        return now == null ? STATE : (Object) now.ways.size();
    }

    Object next(int state, int letter) {
        if (now == null) {
            return STATE;
        }
        return isState(state) && isLetter(letter) ? (Object) now.ways.get(state)[letter] : INDEX;
    }

    Object good(int state) {
        if (now == null) {
            return STATE;
        }
        return isState(state) ? now.goods.get(state) : INDEX;
    }

    Object classes() {
        return now == null ? STATE : (Object) now.classes();
    }

    Object keep() {
        if (now == null) {
            return STATE;
        }
        kept = now;
        return 0;
    }

    Object differ() {
        if (now == null || kept == null) {
            return STATE;
        }
        String due = Reference.differ(now, kept);
        boolean isNone = due.equals("same") || due.equals("beyond");
        word = isNone ? "" : due;
        return !isNone ? due.length() : due.equals("same") ? PatternHouse.NONE : -2;
    }

    Object letter(int i) {
        return i < 0 || i >= word.length() ? INDEX : (Object) Reference.LETTERS.indexOf(word.charAt(i));
    }

    /** How many of each kind there are, for indices at the edges. */
    int positionsThere() {
        return now == null ? 0 : now.positions.size();
    }

    int statesThere() {
        return now == null ? 0 : now.ways.size();
    }

    int findsThere() {
        return now == null ? 0 : allFinds().length;
    }

    int lettersThere() {
        return word.length();
    }

    private boolean isPosition(int p) {
        return p >= 0 && p < now.positions.size();
    }

    private boolean isState(int s) {
        return s >= 0 && s < now.ways.size();
    }

    private static boolean isLetter(int letter) {
        return letter >= 0 && letter < 36;
    }

    private String[] allFinds() {
        String all = now.finds(text.toString());
        return all.isEmpty() ? new String[0] : all.split(" ");
    }

    private static String unpack(long w, int n) {
        StringBuilder all = new StringBuilder();
        for (int i = 0; i < n; i++) {
            all.append((char) (w >>> 8 * i & 255));
        }
        return all.toString();
    }
}

/**
 * A PatternHouse that counts its calls and makes no more than 512: the document leaves free what later ones
 * answer, so no test may ask it.
 */
final class House {
    static final int MOST_CALLS = 512;

    private final PatternHouse inside = new PatternHouse();
    private int calls;

    private PatternHouse called() {
        if (calls == MOST_CALLS) {
            throw new AssertionError("a test makes more than 512 calls on an object");
        }
        calls++;
        return inside;
    }

    int callsLeft() {
        return MOST_CALLS - calls;
    }

    int type(long w, int n) {
        return called().type(w, n);
    }

    int read() {
        return called().read();
    }

    int place() {
        return called().place();
    }

    int positions() {
        return called().positions();
    }

    boolean empty() {
        return called().empty();
    }

    boolean is(int position, int what) {
        return called().is(position, what);
    }

    boolean follows(int p, int q) {
        return called().follows(p, q);
    }

    boolean has(int position, int letter) {
        return called().has(position, letter);
    }

    int feed(long w, int n) {
        return called().feed(w, n);
    }

    int clear() {
        return called().clear();
    }

    boolean whole() {
        return called().whole();
    }

    int finds() {
        return called().finds();
    }

    int find(int i, boolean ends) {
        return called().find(i, ends);
    }

    int states() {
        return called().states();
    }

    int next(int state, int letter) {
        return called().next(state, letter);
    }

    boolean good(int state) {
        return called().good(state);
    }

    int classes() {
        return called().classes();
    }

    /** Answers something, so that it can stand where an answer is asked for. */
    int keep() {
        called().keep();
        return 0;
    }

    int differ() {
        return called().differ();
    }

    int letter(int i) {
        return called().letter(i);
    }
}

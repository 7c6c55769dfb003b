import com.sun.management.ThreadMXBean;
import java.lang.management.ManagementFactory;

/** The room that an object and its 512 calls take: all rows are made with the object, and calls make none. */
public final class RoomTest {
    private static final Check CHECK = new Check();
    private static final long MOST_BYTES_OF_AN_OBJECT = 1_000_000;
    private static final long MOST_BYTES_OF_ITS_CALLS = 50_000;
    private static final String PLAIN = "a+|b{5}{2}b";
    /** 299 states, and told apart from the plain one by 286 letters. */
    private static final String DEAR =
            "(aa)*a|(a{5}{2}a)*a{1,5}a{0,5}|(a{5}{2}aaa)*a{1,5}a{0,5}a{0,2}|b{5}{2}b";
    private static final String BEYOND = ".*a.{5}{5}{2}";

    public static void main(String[] args) {
        if (ManagementFactory.getThreadMXBean() instanceof ThreadMXBean threads
                && threads.isThreadAllocatedMemorySupported()) {
            measure(threads);
        } else {
            System.out.println("this machine does not count what a thread makes");
        }
        CHECK.end();
    }

    private static void measure(ThreadMXBean threads) {
        // what is made once, by the first calls of all, is no matter of an object
        calls(new PatternHouse());
        long start = threads.getCurrentThreadAllocatedBytes();
        PatternHouse house = new PatternHouse();
        long made = threads.getCurrentThreadAllocatedBytes();
        int count = calls(house);
        long called = threads.getCurrentThreadAllocatedBytes();
        System.out.println("an object takes " + (made - start) + " bytes, " + count + " calls take " + (called - made));
        CHECK.due("an object is small enough", made - start <= MOST_BYTES_OF_AN_OBJECT, true);
        CHECK.due("its calls make next to nothing", called - made <= MOST_BYTES_OF_ITS_CALLS, true);
        CHECK.due("no more than 512 calls", count <= House.MOST_CALLS, true);
    }

    private static int calls(PatternHouse house) {
        int calls = read(house, PLAIN) + 1;
        house.keep();
        for (int round = 0; round < 9; round++) {
            calls += ask(house, DEAR) + ask(house, BEYOND) + ask(house, PLAIN);
            house.feed(0x6161616161616161L, 8);
            house.feed(0x6161616161616161L, 8);
            calls += 2;
        }
        return calls;
    }

    private static int ask(PatternHouse house, String pattern) {
        int calls = read(house, pattern);
        house.states();
        house.classes();
        house.whole();
        house.finds();
        house.differ();
        return calls + 5;
    }

    private static int read(PatternHouse house, String pattern) {
        int calls = 0;
        for (int i = 0; i < pattern.length(); i += 8) {
            int n = Math.min(8, pattern.length() - i);
            house.type(packed(pattern, i, n), n);
            calls++;
        }
        house.read();
        return calls + 1;
    }

    /** Makes no text, which would be counted. */
    private static long packed(String pattern, int from, int n) {
        long w = 0;
        for (int i = n - 1; i >= 0; i--) {
            w = w << 8 | pattern.charAt(from + i);
        }
        return w;
    }
}

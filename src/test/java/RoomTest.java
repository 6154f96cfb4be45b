import com.sun.management.ThreadMXBean;
import java.lang.management.ManagementFactory;

/** All objects of a run of 512 calls live in one room of 7.3 million fields and elements, none given back. */
public final class RoomTest {
    private static final int CALLS = 512;
    // A tenth is kept free; a field or an element takes 4 bytes at least.
    private static final long MOST_BYTES = 7_300_000L * 4 * 9 / 10;

    interface Calls {
        void call(RadixShelf shelf, int i);
    }

    public static void main(String[] args) {
        check("fills", 0, (shelf, i) -> shelf.fill(i % 16, i, 1, 2000));
        check("adds", 2000, (shelf, i) -> shelf.add(0, 0, i));
        check("pushes", 2000, (shelf, i) -> shelf.push(0, 0, i));
        check("sets", 2000, (shelf, i) -> shelf.set(0, 0, i, i));
        check("cuts", 2000, (shelf, i) -> shelf.cut(0, 0, 1, 1));
        check("hashes", 2000, (shelf, i) -> shelf.hash(0));
        check("builds", 2000, RoomTest::openBuildFreeze);
        Checks.finish("RoomTest");
    }

    private static void openBuildFreeze(RadixShelf shelf, int i) {
        if (i % 3 == 0) {
            shelf.open(0);
        } else if (i % 3 == 1) {
            shelf.build(1, i, i);
        } else {
            shelf.freeze(0);
        }
    }

    private static void check(String name, int filled, Calls calls) {
        // Once to load the classes, once to measure.
        run(filled, calls);
        long bytes = run(filled, calls);
        Checks.due(name + " make " + bytes + " bytes, few enough", bytes <= MOST_BYTES, true);
    }

    private static long run(int filled, Calls calls) {
        ThreadMXBean threads = (ThreadMXBean) ManagementFactory.getThreadMXBean();
        long before = threads.getCurrentThreadAllocatedBytes();
        RadixShelf shelf = new RadixShelf();
        shelf.fill(0, 0, 1, filled);
        for (int i = 1; i < CALLS; i++) {
            calls.call(shelf, i - 1);
        }
        return threads.getCurrentThreadAllocatedBytes() - before;
    }
}

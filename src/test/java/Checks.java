import java.util.ArrayList;
import java.util.List;

/** What the tests of the project share: they count wrong answers and end with exit code 1 if there was one. */
final class Checks {
    static final int SLOTS = 16;

    private static final int LEAF = 32;

    private static String heading = "";
    private static int sentences = 0;
    private static int wrong = 0;

    interface Call {
        Object run();
    }

    interface ShelfCall {
        Object on(RadixShelf shelf);
    }

    interface Setup {
        void on(RadixShelf shelf);
    }

    private Checks() {
    }

    /** The checks from here on are of this sentence of the document, and a wrong answer names it. */
    static void sentence(String place, String words) {
        heading = place + " (\"" + words + "\"): ";
        sentences++;
    }

    static void due(String what, Object got, Object want) {
        if (!want.equals(got)) {
            wrong++;
            System.out.println(heading + what + " answered " + got + ", due is " + want);
        }
    }

    /** The exception's class is compared exactly: a subclass would be one that Java threw by itself. */
    static void dueThrow(String what, Class<? extends RuntimeException> want, Call call) {
        due(what, outcome(call), want);
    }

    /** The answer of the call, or the class of what it throws. */
    static Object outcome(Call call) {
        try {
            return call.run();
        } catch (RuntimeException e) {
            return e.getClass();
        }
    }

    static RadixShelf made(Setup setup) {
        RadixShelf shelf = new RadixShelf();
        setup.on(shelf);
        return shelf;
    }

    /** The call throws, and its shelf then is as a twin that was made alike and did not get the call. */
    static void dueRefused(String what, Class<? extends RuntimeException> want, Setup setup, ShelfCall call) {
        RadixShelf shelf = made(setup);
        RadixShelf twin = made(setup);
        due(what, outcome(() -> call.on(shelf)), want);
        due(what + ", and what is there behind it", state(shelf), state(twin));
    }

    /** All that can be seen of a shelf. The builder shows what it has only when it is frozen, and so it is gone then. */
    private static List<Object> state(RadixShelf shelf) {
        List<Object> state = new ArrayList<>();
        for (int slot = 0; slot < SLOTS; slot++) {
            state.add(shelf.size(slot));
            state.add(shelf.hash(slot));
        }
        state.add(outcome(() -> shelf.freeze(0)));
        state.add(shelf.hash(0));
        return state;
    }

    static Object opened(RadixShelf shelf, int from) {
        shelf.open(from);
        return "nothing thrown";
    }

    static void dueElements(String what, RadixShelf shelf, int slot, long... want) {
        due(what + ", size", shelf.size(slot), want.length);
        for (int i = 0; i < want.length; i++) {
            dueElement(what, shelf, slot, i, want[i]);
        }
    }

    /** As dueElements, but with few calls: the size, the hash, both ends, and both sides of each edge of 32. */
    static void dueHeld(String what, RadixShelf shelf, int slot, long[] want) {
        due(what + ", size", shelf.size(slot), want.length);
        due(what + ", hash", shelf.hash(slot), hashOf(want));
        for (int i = 0; i < want.length; i++) {
            if (i == want.length - 1 || i % LEAF == 0 || i % LEAF == LEAF - 1) {
                dueElement(what, shelf, slot, i, want[i]);
            }
        }
    }

    private static void dueElement(String what, RadixShelf shelf, int slot, int i, long want) {
        due(what + ", element " + i, outcome(() -> shelf.at(slot, i)), want);
    }

    static long hashOf(long... elements) {
        long h = 1;
        for (long element : elements) {
            h = 31 * h + element;
        }
        return h;
    }

    /** The elements x, x + step, .., n of them. */
    static long[] steps(long x, long step, int n) {
        long[] elements = new long[n];
        for (int i = 0; i < n; i++) {
            elements[i] = x + i * step;
        }
        return elements;
    }

    static long[] joined(long[] first, long... second) {
        long[] both = new long[first.length + second.length];
        System.arraycopy(first, 0, both, 0, first.length);
        System.arraycopy(second, 0, both, first.length, second.length);
        return both;
    }

    static void finish(String name) {
        String about = sentences == 0 ? "" : "sentences tested: " + sentences + ", ";
        String end = wrong == 0 ? "all answers are as due" : wrong + " answers are not as due";
        System.out.println(name + ": " + about + end);
        if (wrong != 0) {
            System.exit(1);
        }
    }
}

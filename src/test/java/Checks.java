import java.util.Arrays;

/** What the tests of the project share: they count wrong answers and end with exit code 1 if there was one. */
final class Checks {
    static final int SLOTS = 16;

    private static int wrong = 0;

    interface Call {
        Object run();
    }

    private Checks() {
    }

    static void due(String what, Object got, Object want) {
        if (!want.equals(got)) {
            wrong++;
            System.out.println(what + " answered " + got + ", due is " + want);
        }
    }

    /** The exception's class is compared exactly: a subclass would be one that Java threw by itself. */
    static void dueThrow(String what, Class<? extends RuntimeException> want, Call call) {
        due(what, outcome(call), want);
    }

    /** The answer of the call, or the class of what it throws. */
    static Object outcome(Call call) {
        try {
            return call.run();
        } catch (RuntimeException e) {
            return e.getClass();
        }
    }

    /** The call throws, and all slots hold what they held before it. */
    static void dueThrowUnchanged(String what, RadixShelf shelf, Class<? extends RuntimeException> want, Call call) {
        long[] before = hashes(shelf);
        dueThrow(what, want, call);
        due(what + " leaves the slots alone", Arrays.equals(hashes(shelf), before), true);
    }

    static void dueElements(String what, RadixShelf shelf, int slot, long... want) {
        due(what + ", size", shelf.size(slot), want.length);
        for (int i = 0; i < want.length; i++) {
            int index = i;
            due(what + ", element " + i, outcome(() -> shelf.at(slot, index)), want[i]);
        }
    }

    static void finish(String name) {
        System.out.println(name + ": " + (wrong == 0 ? "all answers are as due" : wrong + " answers are not as due"));
        if (wrong != 0) {
            System.exit(1);
        }
    }

    private static long[] hashes(RadixShelf shelf) {
        long[] hashes = new long[SLOTS];
        for (int slot = 0; slot < SLOTS; slot++) {
            hashes[slot] = shelf.hash(slot);
        }
        return hashes;
    }
}

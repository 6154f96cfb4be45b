import java.util.NoSuchElementException;

/** The sentences of "What it is" and of "Terms", each for every promise that it touches. */
public final class TermsTest {
    private static final Class<IllegalArgumentException> ARGUMENT = IllegalArgumentException.class;
    private static final Class<IllegalStateException> STATE = IllegalStateException.class;
    private static final Class<NoSuchElementException> NO_ELEMENT = NoSuchElementException.class;
    private static final Class<IndexOutOfBoundsException> FULL = IndexOutOfBoundsException.class;

    private static final int CALLS = 512;
    private static final int MOST_ELEMENTS = 3000;
    private static final int[] WRONG_SLOTS = {-1, 16, 17, Integer.MIN_VALUE, Integer.MAX_VALUE};

    public static void main(String[] args) {
        growToTheLastCall();
        everyCallAsTheLast();
        everySlotCanBeChanged();
        everySlotCanBeRead();
        noOtherSlotCanBeChanged();
        noOtherSlotCanBeRead();
        emptyAtFirst();
        whatIsHeldElsewhereStays();
        whatIsHeldElsewhereStaysAtSharedEnds();
        whatTheBuilderHasStays();
        whatWasFrozenStays();
        elementsAreLongs();
        indicesAreFromZero();
        atMost3000();
        fullIsRefused();
        fullRefusesNothingElse();
        builderIsNotThereAtFirst();
        builderStaysTillItIsFrozen();
        openWhereTheBuilderIs();
        argumentBeforeState();
        argumentBeforeNoElement();
        argumentBeforeFull();
        stateBeforeNoElementAndFull();
        refusedChangesNothing();
        Checks.finish("TermsTest");
    }

    /** Slot s holds 10 s, 10 s + 1, 10 s + 2. */
    private static void stock(RadixShelf shelf) {
        for (int slot = 0; slot < Checks.SLOTS; slot++) {
            shelf.fill(slot, 10L * slot, 1, 3);
        }
    }

    private static void dueOnlyChanged(String what, RadixShelf shelf, int changed, long... want) {
        for (int slot = 0; slot < Checks.SLOTS; slot++) {
            long[] held = slot == changed ? want : Checks.steps(10L * slot, 1, 3);
            Checks.dueElements(what + ", slot " + slot, shelf, slot, held);
        }
    }

    private static RadixShelf filled(int n) {
        return Checks.made(shelf -> shelf.fill(0, 0, 1, n));
    }

    /** Slot 0 and the builder have 3000. No 512 calls bring so many, so that what is FULL is tested behind more. */
    private static void fillUp(RadixShelf shelf) {
        shelf.fill(0, 0, 1, 2000);
        shelf.open(0);
        for (int i = 2000; i < MOST_ELEMENTS; i++) {
            shelf.build(0, 0, i);
        }
        shelf.freeze(0);
        shelf.open(0);
    }

    private static void growToTheLastCall() {
        Checks.sentence("What it is, promises 2, 3, 11", "at most 512 calls after it has been made");
        RadixShelf adds = filled(2000);
        RadixShelf pushes = filled(2000);
        RadixShelf builds = filled(2000);
        builds.open(0);
        for (int call = 2; call <= CALLS; call++) {
            Checks.due("add as call " + call, adds.add(0, 0, -call), 1999 + call);
            Checks.due("push as call " + call, pushes.push(0, 0, -call), 1999 + call);
            if (call > 2) {
                Checks.due("build as call " + call, builds.build(0, 0, -call), 1998 + call);
            }
        }
        // These are calls behind the 512th; what the 512 have built is seen by them alone.
        long[] steps = Checks.steps(0, 1, 2000);
        Checks.dueHeld("511 adds", adds, 0, Checks.joined(steps, Checks.steps(-2, -1, 511)));
        Checks.dueHeld("511 pushes", pushes, 0, Checks.joined(Checks.steps(-512, 1, 511), steps));
        builds.freeze(1);
        Checks.dueHeld("510 builds", builds, 1, Checks.joined(steps, Checks.steps(-3, -1, 510)));
    }

    private static void everyCallAsTheLast() {
        Checks.sentence("What it is, promises 2 to 12", "at most 512 calls after it has been made");
        Checks.due("add", afterMany(false).add(1, 0, 5), 65);
        Checks.due("push", afterMany(false).push(1, 0, 5), 65);
        Checks.due("set", afterMany(false).set(1, 0, 63, 5), 63L);
        Checks.due("at", afterMany(false).at(0, 0), 0L);
        Checks.due("cut", afterMany(false).cut(1, 0, 1, 2), 61);
        Checks.due("fill", afterMany(false).fill(1, 0, 0, 2000), 2000);
        Checks.due("size", afterMany(false).size(0), 64);
        Checks.due("hash", afterMany(false).hash(0), Checks.hashOf(Checks.steps(0, 1, 64)));
        Checks.due("open", Checks.outcome(() -> Checks.opened(afterMany(false), 0)), "nothing thrown");
        Checks.due("build", afterMany(true).build(0, 0, 5), 65);
        Checks.due("freeze", afterMany(true).freeze(1), 64);
        Checks.dueThrow("a refused one", NO_ELEMENT, () -> afterMany(false).at(0, 64));
    }

    /** An object with 511 calls behind it, slot 0 of which holds 0 .. 63. */
    private static RadixShelf afterMany(boolean building) {
        RadixShelf shelf = filled(64);
        int left = CALLS - 2;
        if (building) {
            shelf.open(0);
            left--;
        }
        for (int i = 0; i < left; i++) {
            if (i % 3 == 0) {
                shelf.add(2, 0, i);
            } else if (i % 3 == 1) {
                shelf.push(2, 2, i);
            } else {
                shelf.cut(0, 2, 1, 1);
            }
        }
        return shelf;
    }

    private static void everySlotCanBeChanged() {
        Checks.sentence("Terms, promises 2, 3, 4, 6, 7, 12", "SLOTS 0 .. 15 (slot)");
        for (int slot = 0; slot < Checks.SLOTS; slot++) {
            int s = slot;
            dueChange("add to slot " + s, shelf -> shelf.add(s, 1, 5), s, 10, 11, 12, 5);
            dueChange("push to slot " + s, shelf -> shelf.push(s, 1, 5), s, 5, 10, 11, 12);
            dueChange("set to slot " + s, shelf -> shelf.set(s, 1, 2, 5), s, 10, 11, 5);
            dueChange("cut to slot " + s, shelf -> shelf.cut(s, 1, 1, 1), s, 11);
            dueChange("fill of slot " + s, shelf -> shelf.fill(s, 5, 1, 2), s, 5, 6);
            dueChange("freeze to slot " + s, shelf -> {
                shelf.open(1);
                return shelf.freeze(s);
            }, s, 10, 11, 12);
        }
    }

    private static void everySlotCanBeRead() {
        Checks.sentence("Terms, promises 2 to 6 and 8 to 10", "SLOTS 0 .. 15 (from, and slot where it is read)");
        for (int slot = 0; slot < Checks.SLOTS; slot++) {
            int s = slot;
            long x = 10L * s;
            dueChange("add from slot " + s, shelf -> shelf.add(1, s, 5), 1, x, x + 1, x + 2, 5);
            dueChange("push from slot " + s, shelf -> shelf.push(1, s, 5), 1, 5, x, x + 1, x + 2);
            dueChange("set from slot " + s, shelf -> shelf.set(1, s, 0, 5), 1, 5, x + 1, x + 2);
            dueChange("cut from slot " + s, shelf -> shelf.cut(1, s, 0, 1), 1, x, x + 1);
            dueChange("open from slot " + s, shelf -> {
                shelf.open(s);
                return shelf.freeze(1);
            }, 1, x, x + 1, x + 2);
            RadixShelf shelf = Checks.made(TermsTest::stock);
            shelf.add(s, s, 7);
            Checks.due("size of slot " + s, shelf.size(s), 4);
            Checks.due("at of slot " + s, shelf.at(s, 2), x + 2);
            Checks.due("hash of slot " + s, shelf.hash(s), Checks.hashOf(x, x + 1, x + 2, 7));
        }
    }

    private static void dueChange(String what, Checks.ShelfCall call, int changed, long... want) {
        RadixShelf shelf = Checks.made(TermsTest::stock);
        Object answer = Checks.outcome(() -> call.on(shelf));
        Checks.due(what + " throws", answer instanceof Class, false);
        dueOnlyChanged(what, shelf, changed, want);
    }

    private static void noOtherSlotCanBeChanged() {
        Checks.sentence("Terms, promises 2, 3, 4, 6, 7, 12", "SLOTS 0 .. 15; a number out of range (slot)");
        for (int s : WRONG_SLOTS) {
            Checks.dueRefused("add to slot " + s, ARGUMENT, TermsTest::stock, shelf -> shelf.add(s, 1, 5));
            Checks.dueRefused("push to slot " + s, ARGUMENT, TermsTest::stock, shelf -> shelf.push(s, 1, 5));
            Checks.dueRefused("set to slot " + s, ARGUMENT, TermsTest::stock, shelf -> shelf.set(s, 1, 0, 5));
            Checks.dueRefused("cut to slot " + s, ARGUMENT, TermsTest::stock, shelf -> shelf.cut(s, 1, 1, 1));
            Checks.dueRefused("fill of slot " + s, ARGUMENT, TermsTest::stock, shelf -> shelf.fill(s, 5, 1, 2));
            Checks.dueRefused("freeze to slot " + s, ARGUMENT, TermsTest::stockAndOpen, shelf -> shelf.freeze(s));
        }
    }

    private static void noOtherSlotCanBeRead() {
        Checks.sentence("Terms, promises 2 to 6 and 8 to 10",
                "SLOTS 0 .. 15; a number out of range (from, and slot where it is read)");
        for (int s : WRONG_SLOTS) {
            Checks.dueRefused("add from slot " + s, ARGUMENT, TermsTest::stock, shelf -> shelf.add(1, s, 5));
            Checks.dueRefused("push from slot " + s, ARGUMENT, TermsTest::stock, shelf -> shelf.push(1, s, 5));
            Checks.dueRefused("set from slot " + s, ARGUMENT, TermsTest::stock, shelf -> shelf.set(1, s, 0, 5));
            Checks.dueRefused("cut from slot " + s, ARGUMENT, TermsTest::stock, shelf -> shelf.cut(1, s, 1, 1));
            Checks.dueRefused("at of slot " + s, ARGUMENT, TermsTest::stock, shelf -> shelf.at(s, 0));
            Checks.dueRefused("size of slot " + s, ARGUMENT, TermsTest::stock, shelf -> shelf.size(s));
            Checks.dueRefused("hash of slot " + s, ARGUMENT, TermsTest::stock, shelf -> shelf.hash(s));
            Checks.dueRefused("open of slot " + s, ARGUMENT, TermsTest::stock, shelf -> Checks.opened(shelf, s));
        }
    }

    private static void stockAndOpen(RadixShelf shelf) {
        stock(shelf);
        shelf.open(2);
        shelf.build(0, 0, 99);
    }

    private static void emptyAtFirst() {
        Checks.sentence("Terms, promise 1", "hold a SEQUENCE each, empty at first");
        RadixShelf shelf = new RadixShelf();
        for (int slot = 0; slot < Checks.SLOTS; slot++) {
            Checks.dueElements("slot " + slot, shelf, slot);
            shelf.add(slot, slot, slot);
            Checks.dueElements("slot " + slot + ", not the empty one of the others", shelf, slot, slot);
        }
    }

    private static void whatIsHeldElsewhereStays() {
        Checks.sentence("Terms, promises 2 to 12",
                "what a SLOT held before a call stays what it was wherever else it is held");
        for (int n : new int[] {1, 31, 32, 33, 64, 65, 1024, 1025}) {
            String of = " of " + n;
            dueStays("add" + of, n, shelf -> shelf.add(0, 0, -1));
            dueStays("push" + of, n, shelf -> shelf.push(0, 0, -1));
            dueStays("set of the first" + of, n, shelf -> shelf.set(0, 0, 0, -1));
            dueStays("set of the last" + of, n, shelf -> shelf.set(0, 0, n - 1, -1));
            dueStays("cut of the first" + of, n, shelf -> shelf.cut(0, 0, 1, 0));
            dueStays("cut of the last" + of, n, shelf -> shelf.cut(0, 0, 0, 1));
            dueStays("fill" + of, n, shelf -> shelf.fill(0, -1, -1, n));
            dueStays("open and build 0" + of, n, shelf -> Checks.opened(shelf, 0), shelf -> shelf.build(0, 0, -1));
            dueStays("open and build 1" + of, n, shelf -> Checks.opened(shelf, 0), shelf -> shelf.build(1, n - 1, -1));
            dueStays("open, build and freeze" + of, n, shelf -> Checks.opened(shelf, 0),
                    shelf -> shelf.build(1, 0, -1), shelf -> shelf.freeze(0));
            dueStays("build 2 and 0" + of, n, shelf -> Checks.opened(shelf, 0),
                    shelf -> shelf.build(2, 0, 0), shelf -> shelf.build(0, 0, -1));
        }
    }

    /** Slots 0, 1 and 2 hold the same; the calls go to slot 0. */
    private static void dueStays(String what, int n, Checks.ShelfCall... calls) {
        RadixShelf shelf = filled(n);
        shelf.cut(1, 0, 0, 0);
        shelf.cut(2, 1, 0, 0);
        for (Checks.ShelfCall call : calls) {
            call.on(shelf);
        }
        Checks.dueHeld(what + ", slot 1", shelf, 1, Checks.steps(0, 1, n));
        Checks.dueHeld(what + ", slot 2", shelf, 2, Checks.steps(0, 1, n));
    }

    private static void whatIsHeldElsewhereStaysAtSharedEnds() {
        Checks.sentence("Terms, promises 2, 3, 6", "what a SLOT held .. stays .. (two ways on from one SLOT)");
        RadixShelf shelf = filled(70);
        shelf.add(1, 0, -1);
        shelf.add(2, 0, -2);
        Checks.dueHeld("the first add", shelf, 1, Checks.joined(Checks.steps(0, 1, 70), -1));
        Checks.dueHeld("the second add", shelf, 2, Checks.joined(Checks.steps(0, 1, 70), -2));
        shelf.push(3, 0, -3);
        shelf.push(4, 0, -4);
        Checks.dueHeld("the first push", shelf, 3, Checks.joined(new long[] {-3}, Checks.steps(0, 1, 70)));
        Checks.dueHeld("the second push", shelf, 4, Checks.joined(new long[] {-4}, Checks.steps(0, 1, 70)));
        shelf.cut(5, 0, 0, 40);
        shelf.add(5, 5, -5);
        shelf.cut(6, 0, 40, 0);
        shelf.push(6, 6, -6);
        Checks.dueHeld("add over what was cut behind", shelf, 5, Checks.joined(Checks.steps(0, 1, 30), -5));
        Checks.dueHeld("push over what was cut in front", shelf, 6,
                Checks.joined(new long[] {-6}, Checks.steps(40, 1, 30)));
        Checks.dueHeld("what they came from", shelf, 0, Checks.steps(0, 1, 70));
    }

    private static void whatTheBuilderHasStays() {
        Checks.sentence("Terms, promise 10", "what a SLOT held .. stays .. (the BUILDER has it)");
        Checks.ShelfCall[] calls = {shelf -> shelf.add(0, 0, -1), shelf -> shelf.push(0, 0, -1),
            shelf -> shelf.set(0, 0, 69, -1), shelf -> shelf.cut(0, 0, 9, 9), shelf -> shelf.fill(0, -1, 0, 70)};
        for (int i = 0; i < calls.length; i++) {
            RadixShelf shelf = filled(70);
            shelf.open(0);
            calls[i].on(shelf);
            shelf.build(0, 0, 70);
            calls[i].on(shelf);
            shelf.freeze(1);
            Checks.dueHeld("builder beside call " + i, shelf, 1, Checks.steps(0, 1, 71));
        }
    }

    private static void whatWasFrozenStays() {
        Checks.sentence("Terms, promise 12", "what a SLOT held .. stays .. (it was frozen)");
        RadixShelf shelf = filled(40);
        shelf.open(0);
        shelf.build(0, 0, 40);
        shelf.freeze(1);
        shelf.cut(2, 1, 0, 0);
        shelf.open(1);
        shelf.build(1, 0, -1);
        shelf.build(1, 40, -1);
        shelf.build(2, 0, 0);
        shelf.build(0, 0, -2);
        Checks.dueElements("frozen, with a later builder", shelf, 1, Checks.steps(0, 1, 41));
        shelf.freeze(1);
        Checks.dueElements("frozen, and held elsewhere", shelf, 2, Checks.steps(0, 1, 41));
        shelf.add(3, 2, 41);
        shelf.set(2, 2, 40, -3);
        Checks.dueElements("what came of it", shelf, 3, Checks.steps(0, 1, 42));
    }

    private static void elementsAreLongs() {
        Checks.sentence("Terms, promises 2, 3, 4, 7, 11", "ELEMENTS, longs");
        for (long v : new long[] {Long.MIN_VALUE, Long.MAX_VALUE, -1, 0, 1L << 32, (1L << 31) + 1}) {
            RadixShelf shelf = new RadixShelf();
            shelf.add(0, 0, v);
            shelf.push(1, 1, v);
            shelf.fill(2, v, 1, 1);
            shelf.fill(3, 9, 1, 1);
            shelf.set(3, 3, 0, v);
            Checks.due("what a set of " + v + " answers when it is there", shelf.set(4, 3, 0, 9), v);
            shelf.open(5);
            shelf.build(0, 0, v);
            shelf.build(0, 0, 9);
            shelf.build(1, 1, v);
            shelf.freeze(4);
            for (int slot = 0; slot < 4; slot++) {
                Checks.dueElements("slot " + slot, shelf, slot, v);
            }
            Checks.dueElements("built", shelf, 4, v, v);
        }
    }

    private static void indicesAreFromZero() {
        Checks.sentence("Terms, promises 4, 5, 11", "with indices from 0");
        RadixShelf shelf = filled(2);
        Checks.due("at(0, 0)", shelf.at(0, 0), 0L);
        Checks.due("at(0, 1)", shelf.at(0, 1), 1L);
        Checks.dueThrow("at(0, 2)", NO_ELEMENT, () -> shelf.at(0, 2));
        Checks.dueThrow("at(0, -1)", NO_ELEMENT, () -> shelf.at(0, -1));
        Checks.due("set of 0", shelf.set(1, 0, 0, 8), 0L);
        Checks.dueElements("set of 0", shelf, 1, 8, 1);
        shelf.open(0);
        shelf.build(1, 0, 9);
        shelf.freeze(2);
        Checks.dueElements("build of 0", shelf, 2, 9, 1);
    }

    private static void atMost3000() {
        Checks.sentence("Terms, promises 2, 3, 11", "A SEQUENCE has at most 3000 ELEMENTS");
        long[] all = Checks.steps(0, 1, MOST_ELEMENTS);
        RadixShelf shelf = Checks.made(TermsTest::fillUp);
        Checks.dueHeld("3000 built", shelf, 0, all);
        shelf.cut(1, 0, 0, 1);
        Checks.due("the 3000th added", shelf.add(1, 1, 2999), MOST_ELEMENTS);
        Checks.dueHeld("3000 with an add", shelf, 1, all);
        shelf.cut(2, 0, 1, 0);
        Checks.due("the 3000th pushed", shelf.push(2, 2, 0), MOST_ELEMENTS);
        Checks.dueHeld("3000 with a push", shelf, 2, all);
        Checks.due("2999 in the builder", shelf.build(2, 0, 0), 2999);
        Checks.due("the 3000th built", shelf.build(0, 0, 2999), MOST_ELEMENTS);
        Checks.due("3000 frozen", shelf.freeze(3), MOST_ELEMENTS);
        Checks.dueHeld("3000 frozen", shelf, 3, all);
    }

    private static void fullIsRefused() {
        Checks.sentence("Terms, promises 2, 3, 11", "FULL is when one would have more; FULL: IndexOutOfBoundsException");
        Checks.dueRefused("add to 3000", FULL, TermsTest::fillUp, shelf -> shelf.add(1, 0, 5));
        Checks.dueRefused("add to 3000, into its own slot", FULL, TermsTest::fillUp, shelf -> shelf.add(0, 0, 5));
        Checks.dueRefused("push to 3000", FULL, TermsTest::fillUp, shelf -> shelf.push(1, 0, 5));
        Checks.dueRefused("push to 3000, into its own slot", FULL, TermsTest::fillUp, shelf -> shelf.push(0, 0, 5));
        Checks.dueRefused("build 0 at 3000", FULL, TermsTest::fillUp, shelf -> shelf.build(0, 0, 5));
    }

    private static void fullRefusesNothingElse() {
        Checks.sentence("Terms, promises 2 to 12", "FULL is when one would have more (and not else)");
        RadixShelf shelf = Checks.made(TermsTest::fillUp);
        Checks.due("set", shelf.set(1, 0, 2999, 5), 2999L);
        Checks.due("at", shelf.at(1, 2999), 5L);
        Checks.due("cut of none", shelf.cut(2, 0, 0, 0), MOST_ELEMENTS);
        Checks.due("cut of all", shelf.cut(2, 0, 1500, 1500), 0);
        Checks.due("size", shelf.size(0), MOST_ELEMENTS);
        Checks.due("hash", shelf.hash(0), Checks.hashOf(Checks.steps(0, 1, MOST_ELEMENTS)));
        Checks.due("add from another slot into the full one", shelf.add(1, 2, 5), 1);
        Checks.due("build 1", shelf.build(1, 0, 5), MOST_ELEMENTS);
        Checks.due("freeze", shelf.freeze(3), MOST_ELEMENTS);
        Checks.due("open", Checks.opened(shelf, 3), "nothing thrown");
        Checks.due("build 2", shelf.build(2, 0, 0), 2999);
        Checks.due("fill of the full one", shelf.fill(0, 0, 1, 2000), 2000);
    }

    private static void builderIsNotThereAtFirst() {
        Checks.sentence("Terms, promises 1, 10, 11, 12",
                "A BUILDER is there or not (at first); IllegalStateException: the BUILDER is not there");
        for (int what = 0; what <= 2; what++) {
            int kind = what;
            Checks.dueRefused("build " + what, STATE, TermsTest::stock, shelf -> shelf.build(kind, 0, 5));
            Checks.dueRefused("build " + what + " of a new one", STATE, shelf -> { }, shelf -> shelf.build(kind, 0, 5));
        }
        Checks.dueRefused("freeze", STATE, TermsTest::stock, shelf -> shelf.freeze(0));
        Checks.due("open", Checks.opened(new RadixShelf(), 0), "nothing thrown");
    }

    private static void builderStaysTillItIsFrozen() {
        Checks.sentence("Terms, promises 10, 12", "A BUILDER is there or not");
        RadixShelf shelf = filled(3);
        for (int round = 0; round < 20; round++) {
            shelf.open(0);
            shelf.add(1, 0, 5);
            shelf.push(1, 0, 5);
            shelf.set(1, 0, 0, 5);
            shelf.cut(1, 0, 0, 1);
            shelf.fill(1, 0, 0, 9);
            shelf.at(0, 0);
            shelf.size(0);
            shelf.hash(0);
            Checks.dueThrow("open while it is there", STATE, () -> Checks.opened(shelf, 1));
            Checks.due("it is there in round " + round, shelf.build(0, 0, 3 + round), 4 + round);
            Checks.due("it is frozen in round " + round, shelf.freeze(0), 4 + round);
            Checks.dueThrow("it is gone in round " + round, STATE, () -> shelf.freeze(2));
        }
        Checks.dueElements("20 rounds", shelf, 0, Checks.steps(0, 1, 23));
    }

    private static void openWhereTheBuilderIs() {
        Checks.sentence("Terms, promise 10", "IllegalStateException: .. (for open: it is)");
        for (int slot = 0; slot < Checks.SLOTS; slot++) {
            int s = slot;
            Checks.dueRefused("open of slot " + s, STATE, TermsTest::stockAndOpen, shelf -> Checks.opened(shelf, s));
        }
        Checks.dueRefused("open where the builder is empty", STATE,
                shelf -> shelf.open(0), shelf -> Checks.opened(shelf, 0));
    }

    private static void argumentBeforeState() {
        Checks.sentence("Terms, promises 10, 11, 12", "in this order: IllegalArgumentException ..; IllegalStateException");
        for (int s : WRONG_SLOTS) {
            Checks.dueRefused("open, builder there", ARGUMENT, TermsTest::stockAndOpen, shelf -> Checks.opened(shelf, s));
            Checks.dueRefused("freeze, no builder", ARGUMENT, TermsTest::stock, shelf -> shelf.freeze(s));
        }
        for (int what : new int[] {-1, 3, Integer.MIN_VALUE, Integer.MAX_VALUE}) {
            Checks.dueRefused("build, no builder", ARGUMENT, TermsTest::stock, shelf -> shelf.build(what, 0, 5));
        }
    }

    private static void argumentBeforeNoElement() {
        Checks.sentence("Terms, promises 4, 5, 6, 11", "in this order: IllegalArgumentException ..; NoSuchElementException");
        for (int s : WRONG_SLOTS) {
            Checks.dueRefused("set to", ARGUMENT, TermsTest::stock, shelf -> shelf.set(s, 0, 3, 5));
            Checks.dueRefused("set from", ARGUMENT, TermsTest::stock, shelf -> shelf.set(0, s, 3, 5));
            Checks.dueRefused("at", ARGUMENT, TermsTest::stock, shelf -> shelf.at(s, -1));
            Checks.dueRefused("cut to", ARGUMENT, TermsTest::stock, shelf -> shelf.cut(s, 0, 2, 2));
            Checks.dueRefused("cut from", ARGUMENT, TermsTest::stock, shelf -> shelf.cut(0, s, 2, 2));
        }
        Checks.dueRefused("cut, front", ARGUMENT, TermsTest::stock, shelf -> shelf.cut(0, 0, -1, 9));
        Checks.dueRefused("cut, back", ARGUMENT, TermsTest::stock, shelf -> shelf.cut(0, 0, 9, -1));
        Checks.dueRefused("build", ARGUMENT, shelf -> shelf.open(0), shelf -> shelf.build(3, -1, 5));
    }

    private static void argumentBeforeFull() {
        Checks.sentence("Terms, promises 2, 3, 11", "in this order: IllegalArgumentException ..; FULL");
        Checks.dueRefused("add", ARGUMENT, TermsTest::fillUp, shelf -> shelf.add(16, 0, 5));
        Checks.dueRefused("push", ARGUMENT, TermsTest::fillUp, shelf -> shelf.push(-1, 0, 5));
        Checks.dueRefused("build", ARGUMENT, TermsTest::fillUp, shelf -> shelf.build(-1, 0, 5));
    }

    private static void stateBeforeNoElementAndFull() {
        Checks.sentence("Terms, promise 11", "in this order: .. IllegalStateException ..; NoSuchElementException ..; FULL");
        // No call can lack an element and be FULL at once, so that these two have no order that shows.
        Checks.dueRefused("build 1", STATE, TermsTest::stock, shelf -> shelf.build(1, -1, 5));
        Checks.dueRefused("build 2", STATE, shelf -> { }, shelf -> shelf.build(2, 0, 5));
        Checks.dueRefused("build 0", STATE, shelf -> {
            fillUp(shelf);
            shelf.freeze(1);
        }, shelf -> shelf.build(0, 0, 5));
    }

    /** Each refused call of these tests is compared with a twin that did not get it; here many follow one another. */
    private static void refusedChangesNothing() {
        Checks.sentence("Terms, promises 2 to 12", "A call that throws changes nothing.");
        Checks.ShelfCall[] refused = {shelf -> shelf.add(16, 0, 5), shelf -> shelf.push(0, -1, 5),
            shelf -> shelf.set(0, 0, 3, 5), shelf -> shelf.set(0, 16, 0, 5), shelf -> shelf.at(0, 3),
            shelf -> shelf.cut(0, 0, 2, 2), shelf -> shelf.cut(0, 0, -1, 0), shelf -> shelf.fill(0, 5, 5, 2001),
            shelf -> shelf.size(16), shelf -> shelf.hash(16), shelf -> Checks.opened(shelf, 3),
            shelf -> shelf.build(3, 0, 5), shelf -> shelf.build(1, 4, 5), shelf -> shelf.freeze(16)};
        RadixShelf shelf = Checks.made(TermsTest::stockAndOpen);
        for (int i = 0; i < refused.length; i++) {
            Checks.ShelfCall call = refused[i];
            Checks.due("call " + i + " throws", Checks.outcome(() -> call.on(shelf)) instanceof Class, true);
        }
        dueOnlyChanged("the slots", shelf, -1);
        Checks.due("the builder", shelf.freeze(0), 4);
        dueOnlyChanged("the builder", shelf, 0, 20, 21, 22, 99);
    }
}

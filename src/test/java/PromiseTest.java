import java.util.NoSuchElementException;

/** For each promise: ordinary inputs, the edges that the document names, and wrong inputs. */
public final class PromiseTest {
    private static final Class<IllegalArgumentException> ARGUMENT = IllegalArgumentException.class;
    private static final Class<IllegalStateException> STATE = IllegalStateException.class;
    private static final Class<NoSuchElementException> NO_ELEMENT = NoSuchElementException.class;
    private static final Class<IndexOutOfBoundsException> FULL = IndexOutOfBoundsException.class;

    private static final int[] WRONG_SLOTS = {-1, 16, Integer.MIN_VALUE, Integer.MAX_VALUE};

    public static void main(String[] args) {
        newObject();
        addPutsBehind();
        addRefuses();
        pushPutsBefore();
        pushRefuses();
        setReplaces();
        setRefuses();
        atReads();
        cutDropsBothEnds();
        cutRefuses();
        fillSteps();
        fillRefuses();
        sizeCounts();
        hashFollowsItsFormula();
        openTakesWhatFromHas();
        buildEdits();
        buildRefusesInOrder();
        freezeKeepsAndEnds();
        whatASlotHeldStaysElsewhere();
        Checks.finish("PromiseTest");
    }

    /** Slot 0 has 3000 elements, 0 .. 2999, put there by fill and the builder. */
    private static RadixShelf withFullSlot() {
        RadixShelf shelf = new RadixShelf();
        openFull(shelf);
        shelf.freeze(0);
        return shelf;
    }

    /** The builder has 3000 elements. No run of 512 calls reaches so many, so that FULL is tested behind more calls. */
    private static void openFull(RadixShelf shelf) {
        shelf.fill(0, 0, 1, 2000);
        shelf.open(0);
        for (int i = 2000; i < 3000; i++) {
            shelf.build(0, 0, i);
        }
    }

    private static void newObject() {
        RadixShelf shelf = new RadixShelf();
        for (int slot = 0; slot < Checks.SLOTS; slot++) {
            Checks.due("new, size(" + slot + ")", shelf.size(slot), 0);
            Checks.due("new, hash(" + slot + ")", shelf.hash(slot), 1L);
        }
        Checks.dueThrow("new, at", NO_ELEMENT, () -> shelf.at(0, 0));
        Checks.dueThrow("new, no builder to build", STATE, () -> shelf.build(0, 0, 1));
        Checks.dueThrow("new, no builder to freeze", STATE, () -> shelf.freeze(0));
    }

    private static void addPutsBehind() {
        RadixShelf shelf = new RadixShelf();
        Checks.due("add to empty", shelf.add(1, 0, Long.MIN_VALUE), 1);
        Checks.due("add behind", shelf.add(15, 1, Long.MAX_VALUE), 2);
        Checks.due("add into its own slot", shelf.add(15, 15, 7), 3);
        Checks.dueElements("add", shelf, 15, Long.MIN_VALUE, Long.MAX_VALUE, 7);
        Checks.dueElements("add leaves from", shelf, 1, Long.MIN_VALUE);
        Checks.dueElements("add leaves others", shelf, 0);
        for (int i = 0; i < 100; i++) {
            Checks.due("add over several leaves", shelf.add(2, 2, 3L * i), i + 1);
        }
        for (int i = 0; i < 100; i++) {
            Checks.due("at behind adds", shelf.at(2, i), 3L * i);
        }
    }

    private static void addRefuses() {
        RadixShelf shelf = withFullSlot();
        Checks.dueThrowUnchanged("add to 3000", shelf, FULL, () -> shelf.add(1, 0, 5));
        shelf.cut(1, 0, 0, 1);
        Checks.due("add to 2999", shelf.add(1, 1, 5), 3000);
        Checks.due("the 3000th", shelf.at(1, 2999), 5L);
        for (int slot : WRONG_SLOTS) {
            Checks.dueThrowUnchanged("add to a wrong slot", shelf, ARGUMENT, () -> shelf.add(slot, 2, 5));
            Checks.dueThrowUnchanged("add from a wrong slot", shelf, ARGUMENT, () -> shelf.add(2, slot, 5));
            Checks.dueThrow("add, wrong slot before full", ARGUMENT, () -> shelf.add(slot, 0, 5));
        }
    }

    private static void pushPutsBefore() {
        RadixShelf shelf = new RadixShelf();
        Checks.due("push to empty", shelf.push(1, 0, Long.MIN_VALUE), 1);
        Checks.due("push before", shelf.push(15, 1, Long.MAX_VALUE), 2);
        Checks.due("push into its own slot", shelf.push(15, 15, 7), 3);
        Checks.dueElements("push", shelf, 15, 7, Long.MAX_VALUE, Long.MIN_VALUE);
        Checks.dueElements("push leaves from", shelf, 1, Long.MIN_VALUE);
        Checks.dueElements("push leaves others", shelf, 0);
        for (int i = 0; i < 100; i++) {
            Checks.due("push over several leaves", shelf.push(2, 2, 3L * i), i + 1);
        }
        for (int i = 0; i < 100; i++) {
            Checks.due("at behind pushes", shelf.at(2, i), 3L * (99 - i));
        }
    }

    private static void pushRefuses() {
        RadixShelf shelf = withFullSlot();
        Checks.dueThrowUnchanged("push to 3000", shelf, FULL, () -> shelf.push(1, 0, 5));
        shelf.cut(1, 0, 1, 0);
        Checks.due("push to 2999", shelf.push(1, 1, 5), 3000);
        Checks.due("the new first", shelf.at(1, 0), 5L);
        Checks.due("the old last", shelf.at(1, 2999), 2999L);
        for (int slot : WRONG_SLOTS) {
            Checks.dueThrowUnchanged("push to a wrong slot", shelf, ARGUMENT, () -> shelf.push(slot, 2, 5));
            Checks.dueThrowUnchanged("push from a wrong slot", shelf, ARGUMENT, () -> shelf.push(2, slot, 5));
            Checks.dueThrow("push, wrong slot before full", ARGUMENT, () -> shelf.push(slot, 0, 5));
        }
    }

    private static void setReplaces() {
        RadixShelf shelf = new RadixShelf();
        shelf.fill(0, 10, 1, 100);
        int[] places = {0, 31, 32, 63, 64, 95, 96, 99};
        for (int i : places) {
            Checks.due("set answers what was there", shelf.set(1, 0, i, -1), 10L + i);
            Checks.due("set replaces", shelf.at(1, i), -1L);
            Checks.due("set leaves from", shelf.at(0, i), 10L + i);
            Checks.due("set keeps the size", shelf.size(1), 100);
        }
        Checks.due("only the last set counts", shelf.at(1, 0), 10L);
        Checks.due("set in its own slot", shelf.set(0, 0, 50, 5), 60L);
        Checks.due("set again", shelf.set(0, 0, 50, 6), 5L);
        Checks.due("neighbour before", shelf.at(0, 49), 59L);
        Checks.due("neighbour behind", shelf.at(0, 51), 61L);
    }

    private static void setRefuses() {
        RadixShelf shelf = new RadixShelf();
        shelf.fill(0, 10, 1, 3);
        for (int i : new int[] {-1, 3, Integer.MIN_VALUE, Integer.MAX_VALUE}) {
            Checks.dueThrowUnchanged("set, no element " + i, shelf, NO_ELEMENT, () -> shelf.set(1, 0, i, 5));
        }
        Checks.dueThrowUnchanged("set in the empty one", shelf, NO_ELEMENT, () -> shelf.set(0, 1, 0, 5));
        for (int slot : WRONG_SLOTS) {
            Checks.dueThrow("set to a wrong slot", ARGUMENT, () -> shelf.set(slot, 0, 0, 5));
            Checks.dueThrow("set from a wrong slot", ARGUMENT, () -> shelf.set(0, slot, 0, 5));
            Checks.dueThrow("set, wrong slot before no element", ARGUMENT, () -> shelf.set(slot, 0, 3, 5));
        }
    }

    private static void atReads() {
        RadixShelf shelf = new RadixShelf();
        shelf.fill(15, 7, -2, 33);
        for (int i = 0; i < 33; i++) {
            Checks.due("at(15, " + i + ")", shelf.at(15, i), 7L - 2 * i);
        }
        for (int i : new int[] {-1, 33, 3000, Integer.MIN_VALUE, Integer.MAX_VALUE}) {
            Checks.dueThrow("at, no element " + i, NO_ELEMENT, () -> shelf.at(15, i));
        }
        for (int slot : WRONG_SLOTS) {
            Checks.dueThrow("at a wrong slot", ARGUMENT, () -> shelf.at(slot, 0));
            Checks.dueThrow("at, wrong slot before no element", ARGUMENT, () -> shelf.at(slot, -1));
        }
    }

    private static void cutDropsBothEnds() {
        RadixShelf shelf = new RadixShelf();
        shelf.fill(0, 0, 1, 200);
        Checks.due("cut both ends", shelf.cut(1, 0, 98, 98), 4);
        Checks.dueElements("cut", shelf, 1, 98, 99, 100, 101);
        Checks.due("cut none", shelf.cut(2, 0, 0, 0), 200);
        Checks.due("cut none keeps all", shelf.hash(2), shelf.hash(0));
        Checks.due("cut the front", shelf.cut(3, 0, 199, 0), 1);
        Checks.dueElements("cut the front", shelf, 3, 199);
        Checks.due("cut the back", shelf.cut(4, 0, 0, 199), 1);
        Checks.dueElements("cut the back", shelf, 4, 0);
        Checks.due("cut all at the front", shelf.cut(5, 0, 200, 0), 0);
        Checks.due("cut all at the back", shelf.cut(6, 0, 0, 200), 0);
        Checks.due("cut all at both ends", shelf.cut(7, 0, 64, 136), 0);
        for (int slot = 5; slot <= 7; slot++) {
            Checks.due("what is cut to nothing has the empty hash", shelf.hash(slot), 1L);
            shelf.add(8, slot, 5);
            Checks.due("push behind a cut to nothing", shelf.push(8, 8, 4), 2);
            Checks.dueElements("add and push behind a cut to nothing", shelf, 8, 4, 5);
        }
        Checks.due("cut in its own slot", shelf.cut(1, 1, 1, 1), 2);
        Checks.due("add behind a cut", shelf.add(1, 1, -1), 3);
        Checks.due("push before a cut", shelf.push(1, 1, -2), 4);
        Checks.dueElements("cut, add, push", shelf, 1, -2, 99, 100, -1);
        Checks.due("cut leaves from", shelf.at(0, 101), 101L);
        Checks.due("cut of the empty one", shelf.cut(0, 15, 0, 0), 0);
        Checks.dueElements("cut of the empty one", shelf, 0);
    }

    private static void cutRefuses() {
        RadixShelf shelf = new RadixShelf();
        shelf.fill(0, 0, 1, 10);
        int most = Integer.MAX_VALUE;
        int[][] tooMany = {{11, 0}, {0, 11}, {5, 6}, {most, 0}, {0, most}, {most, most}, {most, 1}, {1, most}};
        for (int[] ends : tooMany) {
            Checks.dueThrowUnchanged("cut too many", shelf, NO_ELEMENT, () -> shelf.cut(1, 0, ends[0], ends[1]));
        }
        int least = Integer.MIN_VALUE;
        int[][] negative = {{-1, 0}, {0, -1}, {-1, 1}, {1, -1}, {least, 0}, {0, least}, {-1, most}, {most, -1}};
        for (int[] ends : negative) {
            Checks.dueThrow("cut a negative number", ARGUMENT, () -> shelf.cut(1, 0, ends[0], ends[1]));
        }
        for (int slot : WRONG_SLOTS) {
            Checks.dueThrow("cut to a wrong slot", ARGUMENT, () -> shelf.cut(slot, 0, 0, 0));
            Checks.dueThrow("cut from a wrong slot", ARGUMENT, () -> shelf.cut(0, slot, 0, 0));
            Checks.dueThrow("cut, wrong slot before too many", ARGUMENT, () -> shelf.cut(slot, 0, 11, 0));
        }
        Checks.dueElements("cuts that throw leave slot 1", shelf, 1);
    }

    private static void fillSteps() {
        RadixShelf shelf = new RadixShelf();
        Checks.due("fill", shelf.fill(0, 5, -3, 4), 4);
        Checks.dueElements("fill", shelf, 0, 5, 2, -1, -4);
        Checks.due("fill wraps", shelf.fill(0, Long.MAX_VALUE, 1, 2), 2);
        Checks.dueElements("fill wraps", shelf, 0, Long.MAX_VALUE, Long.MIN_VALUE);
        Checks.due("fill 0", shelf.fill(0, 5, 3, 0), 0);
        Checks.dueElements("fill 0", shelf, 0);
        Checks.due("fill 2000", shelf.fill(15, 5, 3, 2000), 2000);
        for (int i = 0; i < 2000; i += 9) {
            Checks.due("fill 2000, at " + i, shelf.at(15, i), 5L + 3 * i);
        }
        Checks.due("fill 2000, the last", shelf.at(15, 1999), 6002L);
        Checks.due("fill again", shelf.fill(15, 1, 0, 2), 2);
        Checks.dueElements("fill takes the place of what was there", shelf, 15, 1, 1);
    }

    private static void fillRefuses() {
        RadixShelf shelf = new RadixShelf();
        shelf.fill(0, 1, 1, 5);
        for (int n : new int[] {-1, 2001, 3000, Integer.MIN_VALUE, Integer.MAX_VALUE}) {
            Checks.dueThrowUnchanged("fill " + n, shelf, ARGUMENT, () -> shelf.fill(0, 0, 0, n));
        }
        for (int slot : WRONG_SLOTS) {
            Checks.dueThrowUnchanged("fill a wrong slot", shelf, ARGUMENT, () -> shelf.fill(slot, 0, 0, 1));
        }
    }

    private static void sizeCounts() {
        RadixShelf shelf = withFullSlot();
        Checks.due("size 3000", shelf.size(0), 3000);
        Checks.due("size 0", shelf.size(15), 0);
        shelf.cut(15, 0, 1000, 1001);
        Checks.due("size 999", shelf.size(15), 999);
        for (int slot : WRONG_SLOTS) {
            Checks.dueThrow("size of a wrong slot", ARGUMENT, () -> shelf.size(slot));
        }
    }

    private static void hashFollowsItsFormula() {
        RadixShelf shelf = new RadixShelf();
        Checks.due("hash of the empty one", shelf.hash(0), 1L);
        shelf.fill(0, 0, 0, 1);
        Checks.due("hash of a 0", shelf.hash(0), 31L);
        shelf.fill(0, 5, 2, 2);
        Checks.due("hash of 5, 7", shelf.hash(0), (31L + 5) * 31 + 7);
        shelf.push(0, 0, Long.MIN_VALUE);
        Checks.due("hash wraps", shelf.hash(0), ((31L + Long.MIN_VALUE) * 31 + 5) * 31 + 7);
        long h = 1;
        for (int i = 0; i < 2000; i++) {
            h = 31 * h + 9 - 4L * i;
        }
        shelf.fill(15, 9, -4, 2000);
        Checks.due("hash of 2000", shelf.hash(15), h);
        for (int slot : WRONG_SLOTS) {
            Checks.dueThrow("hash of a wrong slot", ARGUMENT, () -> shelf.hash(slot));
        }
    }

    private static void openTakesWhatFromHas() {
        RadixShelf shelf = new RadixShelf();
        shelf.fill(15, 1, 1, 40);
        for (int slot : WRONG_SLOTS) {
            Checks.dueThrow("open a wrong slot", ARGUMENT, () -> opened(shelf, slot));
        }
        Checks.dueThrow("an open that throws brings no builder", STATE, () -> shelf.freeze(0));
        shelf.open(15);
        Checks.dueThrowUnchanged("open twice", shelf, STATE, () -> opened(shelf, 0));
        for (int slot : WRONG_SLOTS) {
            Checks.dueThrow("open, wrong slot before the builder", ARGUMENT, () -> opened(shelf, slot));
        }
        shelf.fill(15, 0, 0, 1);
        Checks.due("the builder keeps what from had", shelf.freeze(0), 40);
        for (int i = 0; i < 40; i++) {
            Checks.due("what was opened, at " + i, shelf.at(0, i), 1L + i);
        }
        shelf.open(1);
        Checks.due("open of the empty one", shelf.freeze(0), 0);
    }

    private static Object opened(RadixShelf shelf, int from) {
        shelf.open(from);
        return "nothing thrown";
    }

    private static void buildEdits() {
        RadixShelf shelf = new RadixShelf();
        shelf.fill(0, 0, 1, 62);
        shelf.open(0);
        Checks.due("build 0, i does not count", shelf.build(0, -5, 100), 63);
        for (int i = 63; i < 70; i++) {
            Checks.due("build 0", shelf.build(0, 9999, i), i + 1);
        }
        Checks.due("build 1, in the trie", shelf.build(1, 0, -1), 70);
        Checks.due("build 1, in the tail", shelf.build(1, 69, -2), 70);
        Checks.due("build 1, once more", shelf.build(1, 0, -3), 70);
        for (int i = 69; i > 30; i--) {
            Checks.due("build 2, over leaves", shelf.build(2, Integer.MIN_VALUE, 0), i);
        }
        Checks.due("build 0 again", shelf.build(0, 0, -4), 32);
        Checks.due("build 0 into the next leaf", shelf.build(0, 0, -5), 33);
        Checks.due("build leaves from", shelf.at(0, 0), 0L);
        Checks.due("build leaves from's end", shelf.at(0, 61), 61L);
        Checks.due("build leaves from's size", shelf.size(0), 62);
        Checks.due("freeze what was built", shelf.freeze(1), 33);
        Checks.due("built, at 0", shelf.at(1, 0), -3L);
        for (int i = 1; i < 31; i++) {
            Checks.due("built, at " + i, shelf.at(1, i), (long) i);
        }
        Checks.due("built, at 31", shelf.at(1, 31), -4L);
        Checks.due("built, at 32", shelf.at(1, 32), -5L);
    }

    private static void buildRefusesInOrder() {
        RadixShelf shelf = new RadixShelf();
        for (int what : new int[] {-1, 3, Integer.MIN_VALUE, Integer.MAX_VALUE}) {
            Checks.dueThrow("build, wrong what before no builder", ARGUMENT, () -> shelf.build(what, 0, 0));
        }
        for (int what = 0; what <= 2; what++) {
            int kind = what;
            Checks.dueThrow("build " + what + " without a builder", STATE, () -> shelf.build(kind, -1, 0));
        }
        shelf.open(0);
        Checks.dueThrow("build 2 of none", NO_ELEMENT, () -> shelf.build(2, 0, 0));
        Checks.dueThrow("build 1 of none", NO_ELEMENT, () -> shelf.build(1, 0, 0));
        shelf.build(0, 0, 8);
        for (int i : new int[] {-1, 1, 2999, Integer.MIN_VALUE, Integer.MAX_VALUE}) {
            Checks.dueThrow("build 1, no element " + i, NO_ELEMENT, () -> shelf.build(1, i, 0));
        }
        Checks.dueThrow("build, wrong what", ARGUMENT, () -> shelf.build(3, 0, 0));
        Checks.due("builds that throw change nothing", shelf.freeze(0), 1);
        Checks.dueElements("builds that throw change nothing", shelf, 0, 8);

        RadixShelf full = new RadixShelf();
        openFull(full);
        Checks.dueThrow("build 0 at 3000", FULL, () -> full.build(0, 0, 5));
        Checks.due("build 1 at 3000", full.build(1, 2999, 6), 3000);
        Checks.due("build 2 at 3000", full.build(2, 0, 0), 2999);
        Checks.due("build 0 at 2999", full.build(0, 0, 7), 3000);
        Checks.due("freeze 3000", full.freeze(1), 3000);
        Checks.due("the 3000th", full.at(1, 2999), 7L);
    }

    private static void freezeKeepsAndEnds() {
        RadixShelf shelf = new RadixShelf();
        shelf.open(0);
        shelf.build(0, 0, 4);
        for (int slot : WRONG_SLOTS) {
            Checks.dueThrowUnchanged("freeze to a wrong slot", shelf, ARGUMENT, () -> shelf.freeze(slot));
        }
        Checks.due("a freeze that throws keeps the builder", shelf.build(0, 0, 5), 2);
        Checks.due("freeze", shelf.freeze(15), 2);
        Checks.dueElements("frozen", shelf, 15, 4, 5);
        Checks.dueThrowUnchanged("freeze twice", shelf, STATE, () -> shelf.freeze(15));
        Checks.dueThrow("build behind a freeze", STATE, () -> shelf.build(0, 0, 6));
        for (int slot : WRONG_SLOTS) {
            Checks.dueThrow("freeze, wrong slot before no builder", ARGUMENT, () -> shelf.freeze(slot));
        }
        shelf.open(15);
        shelf.build(1, 0, 9);
        shelf.build(2, 0, 0);
        Checks.dueElements("a later builder leaves what was frozen", shelf, 15, 4, 5);
        Checks.due("freeze the later one", shelf.freeze(14), 1);
        Checks.dueElements("the later one", shelf, 14, 9);
    }

    private static void whatASlotHeldStaysElsewhere() {
        RadixShelf shelf = new RadixShelf();
        shelf.fill(0, 0, 1, 64);
        shelf.cut(1, 0, 0, 0);
        long before = shelf.hash(0);
        shelf.add(0, 0, 1);
        Checks.due("behind add", shelf.hash(1), before);
        shelf.push(0, 1, 1);
        Checks.due("behind push", shelf.hash(1), before);
        shelf.set(0, 1, 63, 1);
        shelf.set(0, 0, 0, 1);
        Checks.due("behind set", shelf.hash(1), before);
        shelf.cut(0, 1, 0, 40);
        shelf.add(0, 0, 77);
        Checks.due("behind cut and add", shelf.hash(1), before);
        shelf.cut(0, 1, 40, 0);
        shelf.push(0, 0, 77);
        Checks.due("behind cut and push", shelf.hash(1), before);
        shelf.add(2, 1, 5);
        shelf.add(3, 1, 6);
        Checks.due("two ways on, the first", shelf.at(2, 64), 5L);
        Checks.due("two ways on, the second", shelf.at(3, 64), 6L);
    }
}

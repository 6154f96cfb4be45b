/** For each promise the ordinary inputs. The edges and the wrong inputs are in BoundaryTest and TermsTest. */
public final class PromiseTest {
    public static void main(String[] args) {
        newObject();
        addPutsBehind();
        pushPutsBefore();
        setReplaces();
        atReads();
        cutDropsBothEnds();
        fillSteps();
        sizeCounts();
        hashFollowsItsFormula();
        openTakesWhatFromHas();
        buildEdits();
        freezeKeepsAndEnds();
        Checks.finish("PromiseTest");
    }

    private static void newObject() {
        Checks.sentence("Promise 1", "All SLOTS hold the empty one.");
        RadixShelf shelf = new RadixShelf();
        for (int slot = 0; slot < Checks.SLOTS; slot++) {
            Checks.dueElements("slot " + slot, shelf, slot);
        }
    }

    private static void addPutsBehind() {
        Checks.sentence("Promise 2", "The SLOT holds what from holds, with v behind. Answers the size.");
        RadixShelf shelf = new RadixShelf();
        Checks.due("add to empty", shelf.add(1, 0, -4), 1);
        Checks.due("add behind", shelf.add(2, 1, 9), 2);
        Checks.due("add into its own slot", shelf.add(2, 2, 7), 3);
        Checks.dueElements("add", shelf, 2, -4, 9, 7);
        Checks.dueElements("add leaves from", shelf, 1, -4);
        Checks.dueElements("add leaves others", shelf, 0);
        for (int i = 0; i < 100; i++) {
            Checks.due("add over several leaves", shelf.add(3, 3, 3L * i), i + 1);
        }
        Checks.dueElements("adds", shelf, 3, Checks.steps(0, 3, 100));
    }

    private static void pushPutsBefore() {
        Checks.sentence("Promise 3", "With v before the others. Answers the size.");
        RadixShelf shelf = new RadixShelf();
        Checks.due("push to empty", shelf.push(1, 0, -4), 1);
        Checks.due("push before", shelf.push(2, 1, 9), 2);
        Checks.due("push into its own slot", shelf.push(2, 2, 7), 3);
        Checks.dueElements("push", shelf, 2, 7, 9, -4);
        Checks.dueElements("push leaves from", shelf, 1, -4);
        Checks.dueElements("push leaves others", shelf, 0);
        for (int i = 0; i < 100; i++) {
            Checks.due("push over several leaves", shelf.push(3, 3, 3L * i), i + 1);
        }
        Checks.dueElements("pushes", shelf, 3, Checks.steps(297, -3, 100));
    }

    private static void setReplaces() {
        Checks.sentence("Promise 4", "With v in place of ELEMENT i. Answers what was there.");
        RadixShelf shelf = new RadixShelf();
        shelf.fill(0, 10, 1, 100);
        for (int i : new int[] {0, 31, 32, 63, 64, 95, 96, 99}) {
            Checks.due("set answers what was there", shelf.set(1, 0, i, -1), 10L + i);
            long[] want = Checks.steps(10, 1, 100);
            want[i] = -1;
            Checks.dueHeld("set of element " + i, shelf, 1, want);
        }
        Checks.dueHeld("set leaves from", shelf, 0, Checks.steps(10, 1, 100));
        Checks.due("set in its own slot", shelf.set(0, 0, 50, 5), 60L);
        Checks.due("set again", shelf.set(0, 0, 50, 6), 5L);
    }

    private static void atReads() {
        Checks.sentence("Promise 5", "ELEMENT i");
        RadixShelf shelf = new RadixShelf();
        shelf.fill(4, 7, -2, 33);
        for (int i = 0; i < 33; i++) {
            Checks.due("at(4, " + i + ")", shelf.at(4, i), 7L - 2 * i);
        }
    }

    private static void cutDropsBothEnds() {
        Checks.sentence("Promise 6", "Without its first and last ones, so many. Answers the size.");
        RadixShelf shelf = new RadixShelf();
        shelf.fill(0, 0, 1, 200);
        Checks.due("cut both ends", shelf.cut(1, 0, 98, 98), 4);
        Checks.dueElements("cut both ends", shelf, 1, 98, 99, 100, 101);
        Checks.due("cut in its own slot", shelf.cut(1, 1, 1, 1), 2);
        Checks.due("add behind a cut", shelf.add(1, 1, -1), 3);
        Checks.due("push before a cut", shelf.push(1, 1, -2), 4);
        Checks.dueElements("cut, add, push", shelf, 1, -2, 99, 100, -1);
        Checks.due("cut more in front", shelf.cut(2, 0, 33, 5), 162);
        Checks.dueHeld("cut more in front", shelf, 2, Checks.steps(33, 1, 162));
        Checks.dueHeld("cut leaves from", shelf, 0, Checks.steps(0, 1, 200));
    }

    private static void fillSteps() {
        Checks.sentence("Promise 7", "The SLOT holds n ELEMENTS x, x + step, .. Answers n.");
        RadixShelf shelf = new RadixShelf();
        Checks.due("fill", shelf.fill(0, 5, -3, 4), 4);
        Checks.dueElements("fill", shelf, 0, 5, 2, -1, -4);
        Checks.due("fill again", shelf.fill(0, 1, 0, 2), 2);
        Checks.dueElements("fill takes the place of what was there", shelf, 0, 1, 1);
        Checks.due("fill over leaves", shelf.fill(0, -50, 7, 150), 150);
        Checks.dueElements("fill over leaves", shelf, 0, Checks.steps(-50, 7, 150));
    }

    private static void sizeCounts() {
        Checks.sentence("Promise 8", "How many.");
        RadixShelf shelf = new RadixShelf();
        shelf.fill(3, 0, 1, 1999);
        Checks.due("size 1999", shelf.size(3), 1999);
        shelf.cut(4, 3, 500, 500);
        Checks.due("size 999", shelf.size(4), 999);
    }

    private static void hashFollowsItsFormula() {
        Checks.sentence("Promise 9", "From h 1 on, 31 h + ELEMENT");
        RadixShelf shelf = new RadixShelf();
        shelf.fill(0, 5, 2, 2);
        Checks.due("hash of 5, 7", shelf.hash(0), (31L + 5) * 31 + 7);
        shelf.fill(1, 7, -2, 2);
        Checks.due("hash of 7, 5", shelf.hash(1), (31L + 7) * 31 + 5);
    }

    private static void openTakesWhatFromHas() {
        Checks.sentence("Promise 10", "The BUILDER is there, with what from has.");
        RadixShelf shelf = new RadixShelf();
        shelf.fill(5, 1, 1, 40);
        shelf.open(5);
        Checks.due("the builder is there", shelf.build(0, 0, 41), 41);
        Checks.due("freeze", shelf.freeze(0), 41);
        Checks.dueElements("with what from has", shelf, 0, Checks.steps(1, 1, 41));
    }

    private static void buildEdits() {
        Checks.sentence("Promise 11",
                "what 0: the BUILDER gets v behind; 1: v in place of ELEMENT i; 2: it loses its last one");
        RadixShelf shelf = new RadixShelf();
        shelf.fill(0, 0, 1, 62);
        shelf.open(0);
        for (int i = 62; i < 70; i++) {
            Checks.due("build 0", shelf.build(0, 0, i), i + 1);
        }
        Checks.due("build 1, in the trie", shelf.build(1, 0, -1), 70);
        Checks.due("build 1, in the tail", shelf.build(1, 69, -2), 70);
        Checks.due("build 1, once more", shelf.build(1, 0, -3), 70);
        for (int i = 69; i > 30; i--) {
            Checks.due("build 2, over leaves", shelf.build(2, 0, 0), i);
        }
        Checks.due("build 0 again", shelf.build(0, 0, -4), 32);
        Checks.due("build 0 into the next leaf", shelf.build(0, 0, -5), 33);
        Checks.due("freeze what was built", shelf.freeze(1), 33);
        long[] want = Checks.joined(Checks.steps(0, 1, 31), -4, -5);
        want[0] = -3;
        Checks.dueElements("built", shelf, 1, want);
        Checks.dueHeld("build leaves from", shelf, 0, Checks.steps(0, 1, 62));
    }

    private static void freezeKeepsAndEnds() {
        Checks.sentence("Promise 12", "The SLOT holds what the BUILDER has; it is gone. Answers the size.");
        RadixShelf shelf = new RadixShelf();
        shelf.open(0);
        shelf.build(0, 0, 4);
        shelf.build(0, 0, 5);
        Checks.due("freeze", shelf.freeze(7), 2);
        Checks.dueElements("frozen", shelf, 7, 4, 5);
        shelf.open(7);
        shelf.build(1, 0, 9);
        shelf.build(2, 0, 0);
        Checks.dueElements("a later builder leaves what was frozen", shelf, 7, 4, 5);
        Checks.due("freeze the later one", shelf.freeze(8), 1);
        Checks.dueElements("the later one", shelf, 8, 9);
    }
}

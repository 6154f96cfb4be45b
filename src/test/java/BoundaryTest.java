import java.util.NoSuchElementException;

/** The sentences of promises 1 to 12 that name an edge or a wrong input, one test each. */
public final class BoundaryTest {
    private static final Class<IllegalArgumentException> ARGUMENT = IllegalArgumentException.class;
    private static final Class<IllegalStateException> STATE = IllegalStateException.class;
    private static final Class<NoSuchElementException> NO_ELEMENT = NoSuchElementException.class;

    private static final int LEAST = Integer.MIN_VALUE;
    private static final int MOST = Integer.MAX_VALUE;

    // The sizes round one leaf of 32, two leaves, and one branch of 32 leaves.
    private static final int[] EDGE_SIZES = {0, 1, 31, 32, 33, 63, 64, 65, 1023, 1024, 1025, 1999, 2000};

    public static void main(String[] args) {
        promise1AllSlotsAreEmpty();
        promise2AddAtEachEdge();
        promise2AddIntoFrom();
        promise3PushAtEachEdge();
        promise3PushIntoFrom();
        promise4SetAtEachEnd();
        promise4SetWhereThereIsNone();
        promise4SetAnswersWhatWasThere();
        promise5AtEachEnd();
        promise5AtWhereThereIsNone();
        promise6CutSoMany();
        promise6CutLeavesNone();
        promise6CutOfFewerThanBoth();
        promise6CutOfLessThanNothing();
        promise7FillWraps();
        promise7FillsOfEachN();
        promise7FillsOutsideOfN();
        promise8SizesAtTheEnds();
        promise9HashOfTheEmptyOne();
        promise9HashWraps();
        promise10OpenAtEachEdge();
        promise10OpenTakesNothingElse();
        promise11BuildBehindAtEachEdge();
        promise11BuildInPlace();
        promise11BuildInPlaceWhereThereIsNone();
        promise11BuildLosesDownToNone();
        promise11BuildLosesWhereThereIsNone();
        promise11CountsItsIndexForOneAlone();
        promise11WhatOutOfRange();
        promise12FreezeAtEachEdge();
        promise12BuilderIsGone();
        Checks.finish("BoundaryTest");
    }

    private static long[] elements(int n) {
        return Checks.steps(1000, 1, n);
    }

    /** Slot 0 holds elements(n). */
    private static RadixShelf filled(int n) {
        RadixShelf shelf = new RadixShelf();
        shelf.fill(0, 1000, 1, n);
        return shelf;
    }

    private static void promise1AllSlotsAreEmpty() {
        Checks.sentence("Promise 1", "All SLOTS hold the empty one.");
        for (int slot = 0; slot < Checks.SLOTS; slot++) {
            int number = slot;
            RadixShelf shelf = new RadixShelf();
            Checks.due("size of slot " + slot, shelf.size(slot), 0);
            Checks.due("hash of slot " + slot, shelf.hash(slot), 1L);
            Checks.dueThrow("at of slot " + slot, NO_ELEMENT, () -> shelf.at(number, 0));
            Checks.dueThrow("set of slot " + slot, NO_ELEMENT, () -> shelf.set(number, number, 0, 5));
            Checks.dueThrow("cut of slot " + slot, NO_ELEMENT, () -> shelf.cut(number, number, 0, 1));
            Checks.due("add to slot " + slot, shelf.add((slot + 1) % Checks.SLOTS, slot, 5), 1);
            Checks.due("push to slot " + slot, shelf.push((slot + 2) % Checks.SLOTS, slot, 5), 1);
            shelf.open(slot);
            Checks.dueThrow("build 2 of slot " + slot, NO_ELEMENT, () -> shelf.build(2, 0, 0));
            Checks.due("freeze of slot " + slot, shelf.freeze(slot), 0);
        }
    }

    private static void promise2AddAtEachEdge() {
        Checks.sentence("Promise 2", "The SLOT holds what from holds, with v behind. Answers the size.");
        for (int n : EDGE_SIZES) {
            RadixShelf shelf = filled(n);
            Checks.due("add to " + n, shelf.add(1, 0, -7), n + 1);
            Checks.dueHeld("add to " + n, shelf, 1, Checks.joined(elements(n), -7));
            Checks.dueHeld("from, behind add to " + n, shelf, 0, elements(n));
        }
    }

    private static void promise2AddIntoFrom() {
        Checks.sentence("Promise 2", "The SLOT holds what from holds, with v behind. (slot is from)");
        RadixShelf shelf = new RadixShelf();
        for (int i = 0; i < 70; i++) {
            Checks.due("add " + i, shelf.add(0, 0, 1000 + i), i + 1);
        }
        Checks.dueElements("70 adds", shelf, 0, elements(70));
    }

    private static void promise3PushAtEachEdge() {
        Checks.sentence("Promise 3", "With v before the others. Answers the size.");
        for (int n : EDGE_SIZES) {
            RadixShelf shelf = filled(n);
            Checks.due("push to " + n, shelf.push(1, 0, -7), n + 1);
            Checks.dueHeld("push to " + n, shelf, 1, Checks.joined(new long[] {-7}, elements(n)));
            Checks.dueHeld("from, behind push to " + n, shelf, 0, elements(n));
        }
    }

    private static void promise3PushIntoFrom() {
        Checks.sentence("Promise 3", "With v before the others. (slot is from)");
        RadixShelf shelf = new RadixShelf();
        for (int i = 0; i < 70; i++) {
            Checks.due("push " + i, shelf.push(0, 0, 1069 - i), i + 1);
            if (i == 40) {
                shelf.add(1, 0, 2000);
            }
        }
        Checks.dueElements("70 pushes", shelf, 0, elements(70));
        Checks.dueElements("41 pushes and an add", shelf, 1, Checks.joined(Checks.steps(1029, 1, 41), 2000));
    }

    private static void promise4SetAtEachEnd() {
        Checks.sentence("Promise 4", "With v in place of ELEMENT i");
        for (int n : EDGE_SIZES) {
            for (int i : new int[] {0, n / 2, n - 1}) {
                if (n > 0) {
                    RadixShelf shelf = filled(n);
                    long[] want = elements(n);
                    want[i] = -7;
                    Checks.due("set " + i + " of " + n, shelf.set(1, 0, i, -7), 1000L + i);
                    Checks.dueHeld("set " + i + " of " + n, shelf, 1, want);
                    Checks.dueHeld("from, behind set " + i + " of " + n, shelf, 0, elements(n));
                }
            }
        }
    }

    private static void promise4SetWhereThereIsNone() {
        Checks.sentence("Promise 4", "there is none: NoSuchElementException");
        for (int n : EDGE_SIZES) {
            for (int i : new int[] {-1, n, n + 1, 3000, LEAST, MOST}) {
                Checks.dueRefused("set " + i + " of " + n, NO_ELEMENT,
                        shelf -> shelf.fill(0, 1000, 1, n), shelf -> shelf.set(1, 0, i, -7));
            }
        }
        Checks.dueRefused("set of what a cut took away", NO_ELEMENT, shelf -> {
            shelf.fill(0, 1000, 1, 40);
            shelf.cut(0, 0, 4, 4);
        }, shelf -> shelf.set(0, 0, 32, -7));
    }

    private static void promise4SetAnswersWhatWasThere() {
        Checks.sentence("Promise 4", "Answers what was there.");
        RadixShelf shelf = filled(33);
        Checks.due("the first set", shelf.set(0, 0, 32, -7), 1032L);
        Checks.due("the second, in its own slot", shelf.set(0, 0, 32, -8), -7L);
        Checks.due("the third, with what is there", shelf.set(0, 0, 32, -8), -8L);
        shelf.fill(1, 5, 0, 1);
        Checks.due("what from has, not what the slot has", shelf.set(1, 0, 0, -9), 1000L);
    }

    private static void promise5AtEachEnd() {
        Checks.sentence("Promise 5", "ELEMENT i");
        for (int n : EDGE_SIZES) {
            if (n > 0) {
                RadixShelf shelf = filled(n);
                Checks.due("the first of " + n, shelf.at(0, 0), 1000L);
                Checks.due("the last of " + n, shelf.at(0, n - 1), 999L + n);
            }
        }
        RadixShelf shelf = filled(100);
        shelf.cut(0, 0, 33, 33);
        Checks.due("the first behind a cut", shelf.at(0, 0), 1033L);
        Checks.due("the last behind a cut", shelf.at(0, 33), 1066L);
        shelf.push(0, 0, -7);
        Checks.due("the first behind a push", shelf.at(0, 0), -7L);
        Checks.due("the last behind a push", shelf.at(0, 34), 1066L);
    }

    private static void promise5AtWhereThereIsNone() {
        Checks.sentence("Promise 5", "there is none: NoSuchElementException");
        for (int n : EDGE_SIZES) {
            for (int i : new int[] {-1, n, n + 1, 3000, LEAST, MOST}) {
                Checks.dueRefused("at " + i + " of " + n, NO_ELEMENT,
                        shelf -> shelf.fill(0, 1000, 1, n), shelf -> shelf.at(0, i));
            }
        }
        RadixShelf shelf = filled(40);
        shelf.cut(0, 0, 4, 4);
        Checks.dueThrow("before the first, behind a cut", NO_ELEMENT, () -> shelf.at(0, -1));
        Checks.dueThrow("behind the last, behind a cut", NO_ELEMENT, () -> shelf.at(0, 32));
    }

    private static void promise6CutSoMany() {
        Checks.sentence("Promise 6", "Without its first and last ones, so many. Answers the size.");
        int[] ends = {0, 1, 31, 32, 33, 64, 97};
        for (int front : ends) {
            for (int back : ends) {
                int left = 200 - front - back;
                RadixShelf shelf = filled(200);
                Checks.due("cut " + front + ", " + back, shelf.cut(1, 0, front, back), left);
                Checks.dueHeld("cut " + front + ", " + back, shelf, 1, Checks.steps(1000 + front, 1, left));
                shelf.add(2, 1, -7);
                shelf.push(2, 2, -8);
                long[] longer = Checks.joined(Checks.joined(new long[] {-8}, Checks.steps(1000 + front, 1, left)), -7);
                Checks.dueHeld("cut " + front + ", " + back + ", then add and push", shelf, 2, longer);
                Checks.dueHeld("from, behind cut " + front + ", " + back, shelf, 0, elements(200));
            }
        }
    }

    private static void promise6CutLeavesNone() {
        Checks.sentence("Promise 6", "Without its first and last ones, so many (as many as there are)");
        for (int n : EDGE_SIZES) {
            for (int front : new int[] {0, n / 2, n}) {
                RadixShelf shelf = filled(n);
                Checks.due("cut all of " + n, shelf.cut(1, 0, front, n - front), 0);
                Checks.dueElements("cut all of " + n, shelf, 1);
                Checks.due("its hash", shelf.hash(1), 1L);
                Checks.due("add to it", shelf.add(2, 1, 5), 1);
                Checks.due("push to that", shelf.push(2, 2, 4), 2);
                Checks.dueElements("what was cut to nothing and grew", shelf, 2, 4, 5);
                Checks.due("cut none of none", shelf.cut(1, 1, 0, 0), 0);
            }
        }
    }

    private static void promise6CutOfFewerThanBoth() {
        Checks.sentence("Promise 6", "it has fewer than both together: NoSuchElementException");
        // The last four wrap round when they are summed as ints.
        int[][] tooMany = {{11, 0}, {0, 11}, {5, 6}, {6, 5}, {10, 1}, {1, 10}, {MOST, 0}, {0, MOST},
            {MOST, 1}, {1, MOST}, {MOST, MOST}, {1 << 30, 1 << 30}};
        for (int[] ends : tooMany) {
            Checks.dueRefused("cut " + ends[0] + ", " + ends[1] + " of 10", NO_ELEMENT,
                    shelf -> shelf.fill(0, 1000, 1, 10), shelf -> shelf.cut(1, 0, ends[0], ends[1]));
        }
        Checks.dueRefused("cut 1, 0 of none", NO_ELEMENT, shelf -> { }, shelf -> shelf.cut(1, 0, 1, 0));
        Checks.dueRefused("cut 0, 1 of none", NO_ELEMENT, shelf -> { }, shelf -> shelf.cut(1, 0, 0, 1));
    }

    private static void promise6CutOfLessThanNothing() {
        Checks.sentence("Promise 6", "front, back 0 or more.");
        int[][] negative = {{-1, 0}, {0, -1}, {-1, 1}, {1, -1}, {-1, -1}, {LEAST, 0}, {0, LEAST}, {LEAST, LEAST},
            {-1, MOST}, {MOST, -1}, {LEAST, MOST}, {MOST, LEAST}, {-1, 12}, {12, -1}};
        for (int[] ends : negative) {
            Checks.dueRefused("cut " + ends[0] + ", " + ends[1] + " of 10", ARGUMENT,
                    shelf -> shelf.fill(0, 1000, 1, 10), shelf -> shelf.cut(1, 0, ends[0], ends[1]));
        }
        RadixShelf shelf = filled(10);
        Checks.due("cut 0, 0", shelf.cut(1, 0, 0, 0), 10);
        Checks.dueElements("cut 0, 0", shelf, 1, elements(10));
    }

    private static void promise7FillWraps() {
        Checks.sentence("Promise 7", "x, x + step, .. (they wrap)");
        long least = Long.MIN_VALUE;
        long most = Long.MAX_VALUE;
        RadixShelf shelf = new RadixShelf();
        shelf.fill(0, most - 1, 1, 4);
        Checks.dueElements("over the most", shelf, 0, most - 1, most, least, least + 1);
        shelf.fill(0, least + 1, -1, 4);
        Checks.dueElements("under the least", shelf, 0, least + 1, least, most, most - 1);
        shelf.fill(0, 1, least, 4);
        Checks.dueElements("by the least", shelf, 0, 1, least + 1, 1, least + 1);
        shelf.fill(0, 1, most, 4);
        Checks.dueElements("by the most", shelf, 0, 1, least, -1, most - 1);
        shelf.fill(0, most, 0, 2);
        Checks.dueElements("by nothing", shelf, 0, most, most);
        long step = 0x123456789abcdef1L;
        shelf.fill(0, 17, step, 2000);
        Checks.dueHeld("round many times", shelf, 0, Checks.steps(17, step, 2000));
    }

    private static void promise7FillsOfEachN() {
        Checks.sentence("Promise 7", "n 0 .. 2000. Answers n.");
        for (int n : EDGE_SIZES) {
            RadixShelf shelf = filled(3);
            Checks.due("fill of " + n, shelf.fill(0, 5, 3, n), n);
            Checks.dueHeld("fill of " + n, shelf, 0, Checks.steps(5, 3, n));
        }
    }

    private static void promise7FillsOutsideOfN() {
        Checks.sentence("Promise 7", "n 0 .. 2000");
        for (int n : new int[] {-1, 2001, 3000, 3001, LEAST, MOST}) {
            Checks.dueRefused("fill of " + n, ARGUMENT,
                    shelf -> shelf.fill(0, 1000, 1, 3), shelf -> shelf.fill(0, 5, 3, n));
        }
    }

    private static void promise8SizesAtTheEnds() {
        Checks.sentence("Promise 8", "How many.");
        Checks.due("of a new object", new RadixShelf().size(0), 0);
        for (int n : EDGE_SIZES) {
            RadixShelf shelf = filled(n);
            Checks.due("of " + n, shelf.size(0), n);
            Checks.due("of " + n + ", asked again", shelf.size(0), n);
            shelf.add(0, 0, 5);
            Checks.due("of " + n + " and an add", shelf.size(0), n + 1);
            shelf.push(0, 0, 5);
            Checks.due("of " + n + " and a push", shelf.size(0), n + 2);
            shelf.set(0, 0, n, 6);
            Checks.due("of " + n + " and a set", shelf.size(0), n + 2);
            shelf.cut(0, 0, 1, n + 1);
            Checks.due("of nothing left", shelf.size(0), 0);
        }
    }

    private static void promise9HashOfTheEmptyOne() {
        Checks.sentence("Promise 9", "From h 1 on");
        RadixShelf shelf = new RadixShelf();
        Checks.due("of a new object", shelf.hash(0), 1L);
        shelf.fill(0, 5, 1, 0);
        Checks.due("of a fill of 0", shelf.hash(0), 1L);
        shelf.fill(1, 0, 0, 1);
        Checks.due("of one 0", shelf.hash(1), 31L);
        shelf.fill(1, 0, 0, 2);
        Checks.due("of two 0", shelf.hash(1), 961L);
        shelf.fill(1, -31, 0, 1);
        Checks.due("of one -31", shelf.hash(1), 0L);
    }

    private static void promise9HashWraps() {
        Checks.sentence("Promise 9", "it wraps.");
        RadixShelf shelf = new RadixShelf();
        shelf.fill(0, Long.MAX_VALUE, 0, 1);
        Checks.due("of the most", shelf.hash(0), Long.MIN_VALUE + 30);
        shelf.fill(0, Long.MIN_VALUE, 0, 2);
        Checks.due("of the least, twice", shelf.hash(0), 961L);
        shelf.fill(0, 0, 0, 13);
        // 31 to the 13th is 24417546297445042591, more than 2 to the 64th, which it loses.
        Checks.due("of thirteen 0", shelf.hash(0), 5970802223735490975L);
        shelf.fill(0, 9, -4, 2000);
        Checks.due("of 2000", shelf.hash(0), Checks.hashOf(Checks.steps(9, -4, 2000)));
    }

    private static void promise10OpenAtEachEdge() {
        Checks.sentence("Promise 10", "The BUILDER is there, with what from has.");
        for (int n : EDGE_SIZES) {
            RadixShelf shelf = filled(n);
            shelf.open(0);
            Checks.dueHeld("from, behind open of " + n, shelf, 0, elements(n));
            Checks.due("open of " + n, shelf.freeze(1), n);
            Checks.dueHeld("open of " + n, shelf, 1, elements(n));
        }
    }

    private static void promise10OpenTakesNothingElse() {
        Checks.sentence("Promise 10", "with what from has (when it is opened)");
        RadixShelf shelf = filled(40);
        shelf.open(0);
        shelf.build(0, 0, 1040);
        shelf.freeze(1);
        shelf.open(2);
        Checks.due("nothing of the builder before", shelf.freeze(3), 0);
        shelf.open(0);
        shelf.fill(0, 0, 0, 1);
        Checks.due("what from had", shelf.freeze(3), 40);
        Checks.dueElements("what from had", shelf, 3, elements(40));
    }

    private static void promise11BuildBehindAtEachEdge() {
        Checks.sentence("Promise 11", "what 0: the BUILDER gets v behind. Answers its size.");
        for (int n : EDGE_SIZES) {
            RadixShelf shelf = filled(n);
            shelf.open(0);
            Checks.due("the first behind " + n, shelf.build(0, 0, -7), n + 1);
            Checks.due("the second behind " + n, shelf.build(0, 0, -8), n + 2);
            shelf.freeze(1);
            Checks.dueHeld("two behind " + n, shelf, 1, Checks.joined(elements(n), -7, -8));
            Checks.dueHeld("from, with two behind " + n, shelf, 0, elements(n));
        }
    }

    private static void promise11BuildInPlace() {
        Checks.sentence("Promise 11", "1: v in place of ELEMENT i. Answers its size.");
        for (int n : EDGE_SIZES) {
            for (int i : new int[] {0, n / 2, n - 1}) {
                if (n > 0) {
                    RadixShelf shelf = filled(n);
                    shelf.open(0);
                    Checks.due("element " + i + " of " + n, shelf.build(1, i, -7), n);
                    shelf.freeze(1);
                    long[] want = elements(n);
                    want[i] = -7;
                    Checks.dueHeld("element " + i + " of " + n, shelf, 1, want);
                    Checks.dueHeld("from, with element " + i + " of " + n, shelf, 0, elements(n));
                }
            }
        }
    }

    private static void promise11BuildInPlaceWhereThereIsNone() {
        Checks.sentence("Promise 11", "1: v in place of ELEMENT i; there is none: NoSuchElementException");
        for (int n : EDGE_SIZES) {
            for (int i : new int[] {-1, n, n + 1, 3000, LEAST, MOST}) {
                Checks.dueRefused("element " + i + " of " + n, NO_ELEMENT, shelf -> {
                    shelf.fill(0, 1000, 1, n);
                    shelf.open(0);
                }, shelf -> shelf.build(1, i, -7));
            }
        }
        Checks.dueRefused("an element that the builder lost", NO_ELEMENT, shelf -> {
            shelf.fill(0, 1000, 1, 33);
            shelf.open(0);
            shelf.build(2, 0, 0);
        }, shelf -> shelf.build(1, 32, -7));
    }

    private static void promise11BuildLosesDownToNone() {
        Checks.sentence("Promise 11", "2: it loses its last one. Answers its size.");
        RadixShelf shelf = filled(70);
        shelf.open(0);
        for (int left = 69; left >= 0; left--) {
            Checks.due("down to " + left, shelf.build(2, 0, 0), left);
        }
        Checks.dueThrow("there is none", NO_ELEMENT, () -> shelf.build(2, 0, 0));
        for (int i = 0; i < 70; i++) {
            Checks.due("up again", shelf.build(0, 0, -i), i + 1);
        }
        shelf.freeze(1);
        Checks.dueElements("down and up again", shelf, 1, Checks.steps(0, -1, 70));
        Checks.dueElements("from", shelf, 0, elements(70));
    }

    private static void promise11BuildLosesWhereThereIsNone() {
        Checks.sentence("Promise 11", "2: it loses its last one; there is none: NoSuchElementException");
        Checks.dueRefused("of a new one", NO_ELEMENT, shelf -> shelf.open(0), shelf -> shelf.build(2, 0, 0));
        Checks.dueRefused("of one that lost its last", NO_ELEMENT, shelf -> {
            shelf.open(0);
            shelf.build(0, 0, 5);
            shelf.build(2, 0, 0);
        }, shelf -> shelf.build(2, 0, 0));
        Checks.dueRefused("of one that was cut to nothing", NO_ELEMENT, shelf -> {
            shelf.fill(1, 0, 1, 64);
            shelf.cut(1, 1, 32, 32);
            shelf.open(1);
        }, shelf -> shelf.build(2, 0, 0));
    }

    private static void promise11CountsItsIndexForOneAlone() {
        Checks.sentence("Promise 11", "(i counts for 1 alone)");
        for (int i : new int[] {-1, 0, 1, 2, 3000, LEAST, MOST}) {
            RadixShelf shelf = filled(2);
            shelf.open(0);
            Checks.due("0 with i " + i, shelf.build(0, i, -7), 3);
            Checks.due("0 with i " + i + " again", shelf.build(0, i, -8), 4);
            Checks.due("2 with i " + i, shelf.build(2, i, -9), 3);
            shelf.freeze(1);
            Checks.dueElements("0 and 2 with i " + i, shelf, 1, 1000, 1001, -7);
        }
    }

    private static void promise11WhatOutOfRange() {
        Checks.sentence("Promise 11", "what 0 .. 1 .. 2 (another is a number out of range: IllegalArgumentException)");
        for (int what : new int[] {-1, 3, 4, LEAST, MOST}) {
            Checks.dueRefused("what " + what, ARGUMENT, shelf -> {
                shelf.fill(0, 1000, 1, 3);
                shelf.open(0);
            }, shelf -> shelf.build(what, 0, -7));
        }
    }

    private static void promise12FreezeAtEachEdge() {
        Checks.sentence("Promise 12", "The SLOT holds what the BUILDER has. Answers the size.");
        for (int n : EDGE_SIZES) {
            RadixShelf shelf = filled(n);
            shelf.open(0);
            Checks.due("freeze of " + n + " into from", shelf.freeze(0), n);
            Checks.dueHeld("freeze of " + n + " into from", shelf, 0, elements(n));
            shelf.open(0);
            shelf.build(0, 0, -7);
            shelf.fill(1, 5, 1, 50);
            Checks.due("freeze of " + n + " and one", shelf.freeze(1), n + 1);
            Checks.dueHeld("freeze of " + n + " and one", shelf, 1, Checks.joined(elements(n), -7));
        }
    }

    private static void promise12BuilderIsGone() {
        Checks.sentence("Promise 12", "it is gone.");
        Checks.Setup frozen = shelf -> {
            shelf.open(0);
            shelf.build(0, 0, 5);
            shelf.freeze(1);
        };
        Checks.dueRefused("freeze behind freeze", STATE, frozen, shelf -> shelf.freeze(1));
        for (int what = 0; what <= 2; what++) {
            int kind = what;
            Checks.dueRefused("build " + what + " behind freeze", STATE, frozen, shelf -> shelf.build(kind, 0, 6));
        }
        RadixShelf shelf = Checks.made(frozen);
        shelf.open(1);
        Checks.due("the next one is there", shelf.build(0, 0, 6), 2);
        Checks.dueElements("what was frozen", shelf, 1, 5);
    }
}

import java.util.NoSuchElementException;

/**
 * Sixteen slots with a sequence of longs each. A sequence never changes once a slot holds it:
 * each call edits a draft that shares all nodes it does not touch, and then puts it in a slot.
 */
public final class RadixShelf {
    private static final int SLOTS = 16;
    private static final int MOST_ELEMENTS = 3000;
    private static final int MOST_FILLED = 2000;

    private static final int BUILD_APPEND = 0;
    private static final int BUILD_REPLACE = 1;
    private static final int BUILD_DROP = 2;

    private static final int WIDTH = 32;
    private static final int WIDTH_BITS = 5;
    private static final int NODE_MASK = WIDTH - 1;

    // Three levels give 32768 positions. They are used as a ring: with at most 3000 elements its
    // two ends never meet, so a sequence may grow and shrink at both ends for ever.
    private static final int RING_MASK = WIDTH * WIDTH * WIDTH - 1;

    // The blank nodes belong to no draft; stamps of drafts begin at 1.
    private static final int NO_DRAFT = 0;

    private final Sequence empty;
    private final Sequence[] slots;
    private Sequence builder;
    private int lastStamp;

    public RadixShelf() {
        empty = blankSequence();
        slots = new Sequence[SLOTS];
        for (int slot = 0; slot < SLOTS; slot++) {
            slots[slot] = empty;
        }
        builder = null;
        lastStamp = NO_DRAFT;
    }

    public int add(int slot, int from, long v) throws IllegalArgumentException, IndexOutOfBoundsException {
        checkSlot(slot);
        checkSlot(from);
        checkRoom(slots[from]);
        Sequence draft = draftOf(slots[from]);
        draft.append(v);
        slots[slot] = draft;
        return draft.count;
    }

    public int push(int slot, int from, long v) throws IllegalArgumentException, IndexOutOfBoundsException {
        checkSlot(slot);
        checkSlot(from);
        checkRoom(slots[from]);
        Sequence draft = draftOf(slots[from]);
        draft.prepend(v);
        slots[slot] = draft;
        return draft.count;
    }

    public long set(int slot, int from, int i, long v) throws IllegalArgumentException, NoSuchElementException {
        checkSlot(slot);
        checkSlot(from);
        checkElement(slots[from], i);
        long before = slots[from].element(i);
        Sequence draft = draftOf(slots[from]);
        draft.replace(i, v);
        slots[slot] = draft;
        return before;
    }

    public long at(int slot, int i) throws IllegalArgumentException, NoSuchElementException {
        checkSlot(slot);
        checkElement(slots[slot], i);
        return slots[slot].element(i);
    }

    public int cut(int slot, int from, int front, int back) throws IllegalArgumentException, NoSuchElementException {
        checkSlot(slot);
        checkSlot(from);
        checkNotNegative(front);
        checkNotNegative(back);
        // As a long, since the sum of two ints may wrap.
        if ((long) front + back > slots[from].count) {
            throw new NoSuchElementException("fewer elements than are to be cut");
        }
        Sequence draft = draftOf(slots[from]);
        draft.trim(front, back);
        slots[slot] = draft;
        return draft.count;
    }

    public int fill(int slot, long x, long step, int n) throws IllegalArgumentException {
        checkSlot(slot);
        checkRange(n, 0, MOST_FILLED);
        Sequence draft = draftOf(empty);
        long next = x;
        for (int i = 0; i < n; i++) {
            draft.append(next);
            next += step;
        }
        slots[slot] = draft;
        return n;
    }

    public int size(int slot) throws IllegalArgumentException {
        checkSlot(slot);
        return slots[slot].count;
    }

    public long hash(int slot) throws IllegalArgumentException {
        checkSlot(slot);
        Sequence sequence = slots[slot];
        long h = 1;
        for (int i = 0; i < sequence.count; i++) {
            h = 31 * h + sequence.element(i);
        }
        return h;
    }

    public void open(int from) throws IllegalArgumentException, IllegalStateException {
        checkSlot(from);
        if (builder != null) {
            throw new IllegalStateException("the builder is there already");
        }
        builder = draftOf(slots[from]);
    }

    public int build(int what, int i, long v)
            throws IllegalArgumentException, IllegalStateException, NoSuchElementException, IndexOutOfBoundsException {
        checkRange(what, BUILD_APPEND, BUILD_DROP);
        Sequence draft = presentBuilder();
        if (what == BUILD_APPEND) {
            checkRoom(draft);
            draft.append(v);
        } else if (what == BUILD_REPLACE) {
            checkElement(draft, i);
            draft.replace(i, v);
        } else {
            checkElement(draft, 0);
            draft.trim(0, 1);
        }
        return draft.count;
    }

    public int freeze(int slot) throws IllegalArgumentException, IllegalStateException {
        checkSlot(slot);
        Sequence draft = presentBuilder();
        slots[slot] = draft;
        builder = null;
        return draft.count;
    }

    private Sequence presentBuilder() {
        if (builder == null) {
            throw new IllegalStateException("the builder is not there");
        }
        return builder;
    }

    private Sequence draftOf(Sequence sequence) {
        lastStamp++;
        return new Sequence(lastStamp, sequence.root, sequence.tail, sequence.offset, sequence.count);
    }

    private static void checkSlot(int slot) {
        checkRange(slot, 0, SLOTS - 1);
    }

    private static void checkRange(int number, int least, int most) {
        if (number < least || number > most) {
            throw new IllegalArgumentException("a number is out of range");
        }
    }

    private static void checkNotNegative(int number) {
        if (number < 0) {
            throw new IllegalArgumentException("a number is less than 0");
        }
    }

    private static void checkElement(Sequence sequence, int i) {
        if (i < 0 || i >= sequence.count) {
            throw new NoSuchElementException("there is no such element");
        }
    }

    private static void checkRoom(Sequence sequence) {
        if (sequence.count >= MOST_ELEMENTS) {
            throw new IndexOutOfBoundsException("the sequence is full");
        }
    }

    // Every position has its nodes from the start, all of them the same three, so that no way
    // through the trie ever meets null.
    private static Sequence blankSequence() {
        Leaf leaf = new Leaf(NO_DRAFT, new long[WIDTH]);
        Leaf[] leaves = new Leaf[WIDTH];
        for (int i = 0; i < WIDTH; i++) {
            leaves[i] = leaf;
        }
        Branch branch = new Branch(NO_DRAFT, leaves);
        Branch[] branches = new Branch[WIDTH];
        for (int i = 0; i < WIDTH; i++) {
            branches[i] = branch;
        }
        return new Sequence(NO_DRAFT, new Root(NO_DRAFT, branches), leaf, 0, 0);
    }

    /**
     * Element i is at position offset + i of the ring. A block is 32 positions, which one leaf
     * holds. The block of the last element is the tail's: its leaf in the trie may be stale and is
     * not read. What the nodes hold outside the sequence's positions is stale as well.
     *
     * <p>Edits work in place, and so they are for drafts alone, never for what a slot holds.
     */
    private static final class Sequence {
        final int stamp;
        Root root;
        Leaf tail;
        int offset;
        int count;

        Sequence(int stamp, Root root, Leaf tail, int offset, int count) {
            this.stamp = stamp;
            this.root = root;
            this.tail = tail;
            this.offset = offset;
            this.count = count;
        }

        long element(int i) {
            int position = position(i);
            return leafOf(position >>> WIDTH_BITS).values[position & NODE_MASK];
        }

        void append(long v) {
            int position = position(count);
            int block = position >>> WIDTH_BITS;
            int oldTailBlock = tailBlock();
            count++;
            if (block != oldTailBlock) {
                hang(oldTailBlock, tail);
                tail = root.leafOf(block);
            }
            write(position, v);
        }

        void prepend(long v) {
            offset = position(-1);
            count++;
            write(offset, v);
        }

        void replace(int i, long v) {
            write(position(i), v);
        }

        void trim(int front, int back) {
            int oldTailBlock = tailBlock();
            offset = position(front);
            count -= front + back;
            if (tailBlock() != oldTailBlock) {
                tail = root.leafOf(tailBlock());
            }
        }

        private int position(int i) {
            return (offset + i) & RING_MASK;
        }

        // An empty sequence has a tail too: that of the block before its next position.
        private int tailBlock() {
            return position(count - 1) >>> WIDTH_BITS;
        }

        private Leaf leafOf(int block) {
            return block == tailBlock() ? tail : root.leafOf(block);
        }

        private void write(int position, long v) {
            int block = position >>> WIDTH_BITS;
            Leaf leaf = leafOf(block).ownedBy(stamp);
            leaf.values[position & NODE_MASK] = v;
            if (block == tailBlock()) {
                tail = leaf;
            } else {
                hang(block, leaf);
            }
        }

        private void hang(int block, Leaf leaf) {
            root = root.ownedBy(stamp);
            root.hangOwned(block, leaf);
        }
    }

    // A node bears the stamp of the draft that made it. That draft alone may change it in place;
    // any other takes a copy, since sequences in slots may share the node.

    private static final class Root {
        final int stamp;
        final Branch[] branches;

        Root(int stamp, Branch[] branches) {
            this.stamp = stamp;
            this.branches = branches;
        }

        Root ownedBy(int draft) {
            return stamp == draft ? this : new Root(draft, branches.clone());
        }

        Leaf leafOf(int block) {
            return branches[block >>> WIDTH_BITS].leaves[block & NODE_MASK];
        }

        void hangOwned(int block, Leaf leaf) {
            Branch branch = branches[block >>> WIDTH_BITS].ownedBy(stamp);
            branch.leaves[block & NODE_MASK] = leaf;
            branches[block >>> WIDTH_BITS] = branch;
        }
    }

    private static final class Branch {
        final int stamp;
        final Leaf[] leaves;

        Branch(int stamp, Leaf[] leaves) {
            this.stamp = stamp;
            this.leaves = leaves;
        }

        Branch ownedBy(int draft) {
            return stamp == draft ? this : new Branch(draft, leaves.clone());
        }
    }

    private static final class Leaf {
        final int stamp;
        final long[] values;

        Leaf(int stamp, long[] values) {
            this.stamp = stamp;
            this.values = values;
        }

        Leaf ownedBy(int draft) {
            return stamp == draft ? this : new Leaf(draft, values.clone());
        }
    }
}

import java.util.ArrayList;
import java.util.Arrays;
import java.util.List;
import java.util.NoSuchElementException;
import java.util.Random;

/** Runs of at most 512 calls against a plain model that copies every list; the seeds are fixed. */
public final class ModelTest {
    private static final int RUNS = 3000;
    private static final int CALLS = 512 - 2 * Checks.SLOTS;
    private static final int ROUND_THE_RING = 40_000;
    // Few slots are used, so that runs meet again what they made.
    private static final int USED_SLOTS = 4;

    public static void main(String[] args) {
        for (int seed = 0; seed < RUNS; seed++) {
            run(seed);
        }
        callsWithoutEnd();
        Checks.finish("ModelTest");
    }

    private static void run(int seed) {
        Random random = new Random(seed);
        RadixShelf shelf = new RadixShelf();
        Model model = new Model();
        for (int call = 0; call < CALLS; call++) {
            Step step = Step.any(random, seed % 4);
            Object want = Checks.outcome(() -> step.onModel(model));
            Object got = Checks.outcome(() -> step.onShelf(shelf));
            Checks.due("seed " + seed + ", call " + call + ", " + step, got, want);
        }
        for (int slot = 0; slot < Checks.SLOTS; slot++) {
            Checks.due("seed " + seed + ", last size(" + slot + ")", shelf.size(slot), model.slots.get(slot).size());
            Checks.due("seed " + seed + ", last hash(" + slot + ")", shelf.hash(slot), model.hash(slot));
        }
    }

    /** What an object answers behind its 512th call is free, but it must not throw by itself. */
    private static void callsWithoutEnd() {
        RadixShelf shelf = new RadixShelf();
        shelf.fill(0, 0, 1, 100);
        shelf.fill(1, 0, 1, 100);
        for (int i = 0; i < ROUND_THE_RING; i++) {
            shelf.add(0, 0, i);
            shelf.cut(0, 0, 1, 0);
            shelf.push(1, 1, i);
            shelf.cut(1, 1, 0, 1);
        }
        Checks.due("size behind many calls", shelf.size(0) + shelf.size(1), 200);
    }

    private static final class Step {
        private final String name;
        private final int slot;
        private final int from;
        private final int first;
        private final int second;
        private final long value;

        private Step(String name, int slot, int from, int first, int second, long value) {
            this.name = name;
            this.slot = slot;
            this.from = from;
            this.first = first;
            this.second = second;
            this.value = value;
        }

        /** The styles: 0 small sequences, 1 large ones, 2 much building, 3 cuts near the edges of leaves. */
        static Step any(Random random, int style) {
            String[] names = {"add", "push", "set", "at", "cut", "fill", "size", "hash", "open", "build", "freeze"};
            int[][] weights = {
                {20, 20, 8, 8, 4, 1, 2, 4, 2, 10, 2},
                {12, 12, 8, 8, 8, 3, 2, 4, 3, 12, 3},
                {3, 3, 2, 2, 2, 1, 1, 4, 6, 60, 3},
                {10, 10, 8, 8, 20, 2, 2, 4, 3, 12, 3}};
            String name = names[pick(random, weights[style])];
            int span = style == 1 ? 2500 : 70;
            int first = name.equals("build") ? random.nextInt(100) < 2 ? 3 : random.nextInt(3) : number(random, span);
            int second = number(random, span);
            if (name.equals("fill")) {
                second = style == 1 ? 1500 + random.nextInt(510) : number(random, 130);
            } else if (name.equals("cut") && random.nextInt(10) > 0) {
                first = first / 2;
                second = second / 2;
            }
            return new Step(name, anySlot(random), anySlot(random), first, second, random.nextLong());
        }

        private static int pick(Random random, int[] weights) {
            int left = random.nextInt(Arrays.stream(weights).sum());
            int at = 0;
            while (left >= weights[at]) {
                left -= weights[at];
                at++;
            }
            return at;
        }

        private static int anySlot(Random random) {
            return random.nextInt(100) < 2 ? random.nextInt(20) - 2 : random.nextInt(USED_SLOTS);
        }

        private static int number(Random random, int span) {
            int kind = random.nextInt(50);
            if (kind == 0) {
                return random.nextInt();
            }
            if (kind == 1) {
                return -1;
            }
            return kind < 15 ? random.nextInt(4) : random.nextInt(span);
        }

        Object onShelf(RadixShelf shelf) {
            switch (name) {
                case "add": return shelf.add(slot, from, value);
                case "push": return shelf.push(slot, from, value);
                case "set": return shelf.set(slot, from, first, value);
                case "at": return shelf.at(slot, first);
                case "cut": return shelf.cut(slot, from, first, second);
                case "fill": return shelf.fill(slot, value, ~value >> 3, second);
                case "size": return shelf.size(slot);
                case "hash": return shelf.hash(slot);
                case "open": shelf.open(from); return "nothing";
                case "build": return shelf.build(first, second, value);
                default: return shelf.freeze(slot);
            }
        }

        Object onModel(Model model) {
            switch (name) {
                case "add": return model.put(slot, from, value, false);
                case "push": return model.put(slot, from, value, true);
                case "set": return model.set(slot, from, first, value);
                case "at": return model.list(slot).get(model.element(model.list(slot), first));
                case "cut": return model.cut(slot, from, first, second);
                case "fill": return model.fill(slot, value, ~value >> 3, second);
                case "size": return model.list(slot).size();
                case "hash": return model.hash(slot);
                case "open": return model.open(from);
                case "build": return model.build(first, second, value);
                default: return model.freeze(slot);
            }
        }

        @Override
        public String toString() {
            return name + " " + slot + " " + from + " " + first + " " + second + " " + value;
        }
    }

    private static final class Model {
        final List<List<Long>> slots = new ArrayList<>();
        List<Long> builder = null;

        Model() {
            for (int slot = 0; slot < Checks.SLOTS; slot++) {
                slots.add(List.of());
            }
        }

        List<Long> list(int slot) {
            require(slot >= 0 && slot < Checks.SLOTS);
            return slots.get(slot);
        }

        int element(List<Long> list, int i) {
            if (i < 0 || i >= list.size()) {
                throw new NoSuchElementException();
            }
            return i;
        }

        Object put(int slot, int from, long v, boolean before) {
            list(slot);
            List<Long> next = new ArrayList<>(list(from));
            requireRoom(next);
            next.add(before ? 0 : next.size(), v);
            slots.set(slot, next);
            return next.size();
        }

        Object set(int slot, int from, int i, long v) {
            list(slot);
            List<Long> next = new ArrayList<>(list(from));
            long old = next.set(element(next, i), v);
            slots.set(slot, next);
            return old;
        }

        Object cut(int slot, int from, int front, int back) {
            list(slot);
            List<Long> list = list(from);
            require(front >= 0 && back >= 0);
            if (front > list.size() || back > list.size() - front) {
                throw new NoSuchElementException();
            }
            slots.set(slot, new ArrayList<>(list.subList(front, list.size() - back)));
            return slots.get(slot).size();
        }

        Object fill(int slot, long x, long step, int n) {
            list(slot);
            require(n >= 0 && n <= 2000);
            List<Long> next = new ArrayList<>();
            for (int i = 0; i < n; i++) {
                next.add(x + i * step);
            }
            slots.set(slot, next);
            return n;
        }

        Object hash(int slot) {
            long h = 1;
            for (long element : list(slot)) {
                h = 31 * h + element;
            }
            return h;
        }

        Object open(int from) {
            List<Long> next = new ArrayList<>(list(from));
            if (builder != null) {
                throw new IllegalStateException();
            }
            builder = next;
            return "nothing";
        }

        Object build(int what, int i, long v) {
            require(what >= 0 && what <= 2);
            requireBuilder();
            if (what == 0) {
                requireRoom(builder);
                builder.add(v);
            } else if (what == 1) {
                builder.set(element(builder, i), v);
            } else {
                builder.remove(element(builder, builder.size() - 1));
            }
            return builder.size();
        }

        Object freeze(int slot) {
            list(slot);
            requireBuilder();
            slots.set(slot, builder);
            builder = null;
            return slots.get(slot).size();
        }

        private void requireBuilder() {
            if (builder == null) {
                throw new IllegalStateException();
            }
        }

        private static void require(boolean inRange) {
            if (!inRange) {
                throw new IllegalArgumentException();
            }
        }

        private static void requireRoom(List<Long> list) {
            if (list.size() >= 3000) {
                throw new IndexOutOfBoundsException();
            }
        }
    }
}

import java.math.BigInteger;
import java.util.Random;

/** Holds the program against the model: single calls on random ordinals, and random runs of calls. */
public final class ModelTest {
    private static final String[] OPERATIONS = {"op", "op", "op", "op", "op", "op", "op", "op",
        "member", "step", "chop", "fast", "value", "compare"};
    /** Those that make ordinals come more often than those that only look at them. */
    private static final String[] CALLS = {"finite", "finite", "raise", "raise", "raise", "raise",
        "op", "op", "op", "op", "op", "op", "op", "op", "op", "op", "op", "op", "member", "step",
        "chop", "chop", "chop", "start", "fast", "value", "compare", "kind", "size", "at", "record",
        "record", "rise", "replace", "recall"};
    private static final int[] EDGES = {-1, 0, 1, 2, 3, 7, 8, 12, 13, 19, 20, 21, 999, 1000, 1001,
        1999, 2000, 2001, 999999, 1000000, 1000001, 1000000000, 1000000001,
        Integer.MAX_VALUE, Integer.MIN_VALUE};
    private static final int CALLS_OF_A_RUN = 260;
    private static final int CELLS_READ = 30;

    private final Random random = new Random(20261115);

    public static void main(String[] args) {
        ModelTest test = new ModelTest();
        for (int round = 0; round < 14000; round++) {
            test.singleCall(round % OPERATIONS.length);
        }
        for (int round = 0; round < 600; round++) {
            test.runOfCalls();
        }
        Bench.finish();
    }

    /** One call on two slots with ordinals of up to the greatest size; the first eight are operations. */
    private void singleCall(int which) {
        Tree b = anyTree();
        Tree a = firstFor(which, b);
        Twin twin = new Twin();
        twin.load(0, a);
        twin.load(1, b);
        twin.load(2, Tree.ZERO);
        String where = a + " and " + b;
        twin.call(where, OPERATIONS[which], operands(which, a));
        for (int slot = 0; slot < 3; slot++) {
            twin.sameSlot(OPERATIONS[which] + " at " + where, slot);
        }
    }

    private int[] operands(int which, Tree a) {
        int to = random.nextInt(3);
        switch (OPERATIONS[which]) {
            case "op": return new int[] {which, 0, 1, to};
            case "member": return new int[] {0, smallOrEdge(), to};
            case "step": return new int[] {0, 2 + random.nextInt(4), to};
            case "chop": return new int[] {0, random.nextInt(5) == 0 ? anyWay() : wayInto(a), random.nextInt(4), to};
            case "fast": return new int[] {0, random.nextInt(4), 1 + random.nextInt(2000)};
            case "value": return new int[] {0, random.nextInt(12)};
            default: return new int[] {0, 1};
        }
    }

    /** An ordinal that goes with b: so that limits have members, and quotients are not all plain. */
    private Tree firstFor(int which, Tree b) {
        Tree a = anyTree();
        boolean related = random.nextInt(4) > 0;
        if (OPERATIONS[which].equals("member") && related && a.isSuccessor()) {
            return a.withoutLast();
        }
        if (which >= 5 && which <= 7 && related) {
            Tree made = which == 5 ? Tree.sum(b, a) : Tree.sum(Tree.product(b, tree(4)), a);
            return DeskModel.hasRoom(made) ? made : a;
        }
        return random.nextInt(10) == 0 ? b : a;
    }

    /** Calls of all sorts on one object, some of them with wrong arguments; then the slots are read. */
    private void runOfCalls() {
        Twin twin = new Twin();
        for (int slot = 0; slot < 8; slot++) {
            twin.call("the beginning", "finite", random.nextInt(4), slot);
            twin.call("the beginning", "raise", random.nextInt(slot + 1), 1 + random.nextInt(3), slot);
        }
        for (int i = 16; i < CALLS_OF_A_RUN; i++) {
            String name = random.nextInt(150) == 0 ? "wipe" : CALLS[random.nextInt(CALLS.length)];
            twin.call("call " + i, name, arguments(name));
        }
        for (int slot = 0; slot < 8; slot++) {
            for (int i = 0; i <= Math.min(twin.lengthOfWriting(slot), CELLS_READ); i++) {
                twin.call("the end", "at", slot, i);
            }
        }
    }

    private int[] arguments(String name) {
        switch (name) {
            case "finite": return new int[] {smallOrEdge(), slot()};
            case "op": return new int[] {random.nextInt(40) == 0 ? smallOrEdge() : random.nextInt(8),
                slot(), slot(), slot()};
            case "chop": return new int[] {slot(), anyWay(), smallOrEdge(), slot()};
            case "start": return new int[] {random.nextInt(1 << (1 + random.nextInt(30))), smallOrEdge(), slot()};
            case "fast": return new int[] {slot(), smallOrEdge(), random.nextInt(2010)};
            case "value": return new int[] {slot(), smallOrEdge()};
            case "at": return new int[] {slot(), random.nextInt(64) - 2};
            case "replace": case "recall": return new int[] {random.nextInt(15) - 1, slot()};
            case "compare": return new int[] {slot(), slot()};
            case "kind": case "size": case "record": return new int[] {slot()};
            case "rise": case "wipe": return new int[] {};
            default: return new int[] {slot(), smallOrEdge(), slot()};
        }
    }

    private int slot() {
        return random.nextInt(60) == 0 ? edge() : random.nextInt(8);
    }

    private int smallOrEdge() {
        return random.nextInt(3) == 0 ? edge() : random.nextInt(6);
    }

    private int edge() {
        return EDGES[random.nextInt(EDGES.length)];
    }

    /** Mostly digits that name one of the first terms. */
    private int anyWay() {
        int way = 0;
        for (int i = 0; i < 5; i++) {
            way = way * 8 + (random.nextInt(30) == 0 ? random.nextInt(8) : Math.max(0, random.nextInt(6) - 4));
        }
        return random.nextInt(30) == 0 ? edge() : way;
    }

    private int wayInto(Tree tree) {
        int way = 0;
        int place = 1;
        Tree part = tree;
        for (int i = 0; i < 10 && !part.isZero(); i++) {
            int digit = random.nextInt(Math.min(8, part.terms.size()));
            way += digit * place;
            place *= 8;
            part = part.terms.get(digit).exponent();
        }
        return way;
    }

    private Tree anyTree() {
        return tree(1 + random.nextInt(random.nextBoolean() ? 20 : 8));
    }

    /** A random ordinal of about that size, and not beyond it. */
    private Tree tree(int size) {
        Tree tree = Tree.ZERO;
        int left = size;
        while (left > 0 && random.nextInt(12) > 0) {
            Tree exponent = tree(random.nextInt(left));
            Tree term = Tree.power(exponent, BigInteger.valueOf(coefficient()));
            Tree more = Tree.naturalSum(tree, term);
            if (DeskModel.hasRoom(more)) {
                tree = more;
            }
            left -= term.size();
        }
        return tree;
    }

    private int coefficient() {
        int sort = random.nextInt(40);
        return sort == 0 ? 1000000 : sort == 1 ? 1000 : sort == 2 ? 500000 : 1 + random.nextInt(3);
    }
}

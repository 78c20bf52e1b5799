import java.math.BigInteger;
import java.util.Random;

/** Holds the program against the model: single calls on random ordinals, and random runs of calls. */
public final class ModelTest {
    private static final int RECORD = 13;
    private static final int WIPE = 17;
    private static final int[] EDGES = {-1, 0, 1, 2, 3, 7, 8, 12, 13, 19, 20, 21, 999, 1000, 1001,
        1999, 2000, 2001, 999999, 1000000, 1000001, 1000000000, 1000000001,
        Integer.MAX_VALUE, Integer.MIN_VALUE};

    public static void main(String[] args) {
        Random random = new Random(20261115);
        for (int round = 0; round < 12000; round++) {
            singleCall(random, round % 14);
        }
        for (int round = 0; round < 600; round++) {
            runOfCalls(random);
        }
        Bench.finish();
    }

    /** One call on two slots with ordinals of up to the greatest size. */
    private static void singleCall(Random random, int which) {
        Tree b = anyTree(random);
        Tree a = firstFor(random, which, b);
        Bench bench = new Bench();
        DeskModel model = new DeskModel();
        bench.load(0, a);
        bench.load(1, b);
        bench.load(2, Tree.ZERO);
        model.slots[0] = a;
        model.slots[1] = b;
        int to = random.nextInt(3);
        int[] values = arguments(random, which, a, to);
        call(bench.desk, model, which < 8 ? 2 : which - 5, values, a + " and " + b);
        for (int slot = 0; slot < 3; slot++) {
            due("slot " + slot + " behind " + which + " of " + a + " and " + b,
                    bench.read(slot).toString(), model.slots[slot].toString());
        }
    }

    private static Tree anyTree(Random random) {
        return tree(random, 1 + random.nextInt(random.nextBoolean() ? 20 : 8));
    }

    /** An ordinal that goes with b: so that limits have members, and quotients are not all plain. */
    private static Tree firstFor(Random random, int which, Tree b) {
        Tree a = anyTree(random);
        boolean related = random.nextInt(4) > 0;
        if (which == 8 && related && a.isSuccessor()) {
            return a.withoutLast();
        }
        if (which >= 5 && which <= 7 && related) {
            Tree made = which == 5 ? Tree.sum(b, a) : Tree.sum(Tree.product(b, tree(random, 4)), a);
            return DeskModel.hasRoom(made) ? made : a;
        }
        return random.nextInt(10) == 0 ? b : a;
    }

    private static int[] arguments(Random random, int which, Tree a, int to) {
        switch (which) {
            case 8: return new int[] {0, smallOrEdge(random), to, 0};
            case 9: return new int[] {0, 2 + random.nextInt(4), to, 0};
            case 10: return new int[] {0, random.nextInt(5) == 0 ? way(random) : wayInto(random, a),
                random.nextInt(4), to};
            case 11: return new int[] {0, random.nextInt(4), 1 + random.nextInt(2000), 0};
            case 12: return new int[] {0, random.nextInt(12), 0, 0};
            case 13: return new int[] {0, 1, 0, 0};
            default: return new int[] {which, 0, 1, to};
        }
    }

    private static int wayInto(Random random, Tree tree) {
        int way = 0;
        int place = 1;
        Tree part = tree;
        for (int i = 0; i < 10 && !part.isZero(); i++) {
            int digit = random.nextInt(Math.min(8, part.terms.size()));
            way += digit * place;
            place *= 8;
            part = part.terms.get(digit).exponent();
        }
        return way;
    }

    /** Calls by number: those of singleCall are op 2, member 3, step 4, chop 5, fast 6, value 7, compare 8. */
    private static void call(OrdinalDesk desk, DeskModel model, int which, int[] v, String where) {
        String what = "call " + which + " (" + v[0] + ", " + v[1] + ", " + v[2] + ", " + v[3] + ") at " + where;
        due(what, Bench.outcome(() -> onDesk(desk, which, v)), Bench.outcome(() -> onModel(model, which, v)));
    }

    private static int onDesk(OrdinalDesk desk, int which, int[] v) {
        switch (which) {
            case 0: desk.finite(v[0], v[1]); return 0;
            case 1: desk.raise(v[0], v[1], v[2]); return 0;
            case 2: return desk.op(v[0], v[1], v[2], v[3]);
            case 3: return desk.member(v[0], v[1], v[2]);
            case 4: return desk.step(v[0], v[1], v[2]);
            case 5: return desk.chop(v[0], v[1], v[2], v[3]);
            case 6: return desk.fast(v[0], v[1], v[2]);
            case 7: return desk.value(v[0], v[1]);
            case 8: return desk.compare(v[0], v[1]);
            case 9: return desk.start(v[0], v[1], v[2]);
            case 10: return desk.kind(v[0]);
            case 11: return desk.size(v[0]);
            case 12: return desk.at(v[0], v[1]);
            case 13: return desk.record(v[0]);
            case 14: return desk.rise();
            case 15: desk.replace(v[0], v[1]); return 0;
            case 16: desk.recall(v[0], v[1]); return 0;
            default: return desk.wipe();
        }
    }

    private static int onModel(DeskModel desk, int which, int[] v) {
        switch (which) {
            case 0: desk.finite(v[0], v[1]); return 0;
            case 1: desk.raise(v[0], v[1], v[2]); return 0;
            case 2: return desk.op(v[0], v[1], v[2], v[3]);
            case 3: return desk.member(v[0], v[1], v[2]);
            case 4: return desk.step(v[0], v[1], v[2]);
            case 5: return desk.chop(v[0], v[1], v[2], v[3]);
            case 6: return desk.fast(v[0], v[1], v[2]);
            case 7: return desk.value(v[0], v[1]);
            case 8: return desk.compare(v[0], v[1]);
            case 9: return desk.start(v[0], v[1], v[2]);
            case 10: return desk.kind(v[0]);
            case 11: return desk.size(v[0]);
            case 12: return desk.at(v[0], v[1]);
            case 13: return desk.record(v[0]);
            case 14: return desk.rise();
            case 15: desk.replace(v[0], v[1]); return 0;
            case 16: desk.recall(v[0], v[1]); return 0;
            default: return desk.wipe();
        }
    }

    /** Calls of all sorts on one object, some of them with wrong arguments; then all is read. */
    private static void runOfCalls(Random random) {
        OrdinalDesk desk = new OrdinalDesk();
        DeskModel model = new DeskModel();
        int calls = 0;
        for (int slot = 0; slot < 8; slot++, calls += 2) {
            call(desk, model, 0, new int[] {random.nextInt(4), slot, 0, 0}, "the beginning");
            call(desk, model, 1, new int[] {random.nextInt(slot + 1), 1 + random.nextInt(3), slot, 0}, "the beginning");
        }
        for (; calls < 260; calls++) {
            int which = sort(random);
            if (which == WIPE && random.nextInt(12) > 0) {
                which = RECORD;
            }
            call(desk, model, which, runArguments(random, which), "call " + calls);
        }
        for (int slot = 0; slot < 8; slot++) {
            for (int i = 0; i <= Math.min(model.slots[slot].writing().size(), 30); i++) {
                call(desk, model, 12, new int[] {slot, i, 0, 0}, "the end");
            }
        }
    }

    /** The makers of ordinals come more often than the calls that only look at them. */
    private static int sort(Random random) {
        int sort = random.nextInt(36);
        if (sort < 18) {
            return sort;
        }
        return sort < 30 ? 2 : sort < 33 ? 1 : 5;
    }

    private static int[] runArguments(Random random, int which) {
        switch (which) {
            case 0: return new int[] {smallOrEdge(random), slot(random), 0, 0};
            case 1: return new int[] {slot(random), smallOrEdge(random), slot(random), 0};
            case 2: return new int[] {random.nextInt(40) == 0 ? smallOrEdge(random) : random.nextInt(8),
                slot(random), slot(random), slot(random)};
            case 5: return new int[] {slot(random), way(random), smallOrEdge(random), slot(random)};
            case 9: return new int[] {random.nextInt(1 << (1 + random.nextInt(30))), smallOrEdge(random),
                slot(random), 0};
            case 6: return new int[] {slot(random), smallOrEdge(random), random.nextInt(2010), 0};
            case 12: return new int[] {slot(random), random.nextInt(64) - 2, 0, 0};
            case 15: case 16: return new int[] {random.nextInt(15) - 1, slot(random), 0, 0};
            default: return new int[] {slot(random), smallOrEdge(random), slot(random), 0};
        }
    }

    private static int slot(Random random) {
        return random.nextInt(60) == 0 ? EDGES[random.nextInt(EDGES.length)] : random.nextInt(8);
    }

    private static int smallOrEdge(Random random) {
        return random.nextInt(3) == 0 ? EDGES[random.nextInt(EDGES.length)] : random.nextInt(6);
    }

    /** Mostly digits that name one of the first terms. */
    private static int way(Random random) {
        int way = 0;
        for (int i = 0; i < 5; i++) {
            int digit = random.nextInt(30) == 0 ? random.nextInt(8) : Math.max(0, random.nextInt(4) - 1);
            way = way * 8 + digit;
        }
        return random.nextInt(30) == 0 ? EDGES[random.nextInt(EDGES.length)] : way;
    }

    /** A random ordinal of about that size, and not beyond it. */
    private static Tree tree(Random random, int size) {
        Tree tree = Tree.ZERO;
        int left = size;
        while (left > 0 && random.nextInt(12) > 0) {
            Tree exponent = tree(random, random.nextInt(Math.max(1, left)));
            Tree term = Tree.power(exponent, BigInteger.valueOf(coefficient(random)));
            Tree more = Tree.naturalSum(tree, term);
            if (more.greatestCoefficient().intValueExact() <= 1000000) {
                tree = more;
            }
            left -= term.size();
        }
        return tree;
    }

    private static int coefficient(Random random) {
        int sort = random.nextInt(40);
        return sort == 0 ? 1000000 : sort == 1 ? 1000 : sort == 2 ? 500000 : 1 + random.nextInt(3);
    }

    private static void due(String what, Object got, Object want) {
        Bench.due(what, got, want);
    }
}

import java.math.BigInteger;
import java.util.ArrayList;
import java.util.List;

/** Holds the program against the model at every ordinal of a small size with coefficients 1 and 2. */
public final class EveryTest {
    private static final int SIZE_IN_PAIRS = 4;
    private static final int SIZE_ALONE = 6;
    private static final int SIZE_OF_HYDRAS = 5;
    /** All ways of three digits: behind these a hydra of this size has but one term to a level. */
    private static final int WAYS = 8 * 8 * 8;
    private static final int KINDS = 8;
    private static final int MOST_COEFFICIENT = 2;

    /** By their sizes. */
    private static final List<List<Tree>> ORDINALS = new ArrayList<>();

    public static void main(String[] args) {
        for (int size = 0; size <= SIZE_ALONE; size++) {
            ORDINALS.add(ofSize(size));
        }
        for (Tree a : upTo(SIZE_IN_PAIRS)) {
            for (Tree b : upTo(SIZE_IN_PAIRS)) {
                pair(a, b);
            }
        }
        for (Tree a : upTo(SIZE_ALONE)) {
            alone(a);
        }
        for (Tree a : upTo(SIZE_OF_HYDRAS)) {
            hydra(a);
        }
        Bench.finish();
    }

    /** Those of lesser sizes must stand already: a first term is put before each that it may lead. */
    private static List<Tree> ofSize(int size) {
        if (size == 0) {
            return List.of(Tree.ZERO);
        }
        List<Tree> all = new ArrayList<>();
        for (int inExponent = 0; inExponent < size; inExponent++) {
            for (Tree exponent : ORDINALS.get(inExponent)) {
                for (Tree rest : ORDINALS.get(size - 1 - inExponent)) {
                    if (rest.isZero() || Tree.order(rest.first().exponent(), exponent) < 0) {
                        addLed(exponent, rest, all);
                    }
                }
            }
        }
        return all;
    }

    private static void addLed(Tree exponent, Tree rest, List<Tree> all) {
        for (int coefficient = 1; coefficient <= MOST_COEFFICIENT; coefficient++) {
            all.add(Tree.sum(Tree.power(exponent, BigInteger.valueOf(coefficient)), rest));
        }
    }

    private static List<Tree> upTo(int size) {
        List<Tree> all = new ArrayList<>();
        for (int i = 0; i <= size; i++) {
            all.addAll(ORDINALS.get(i));
        }
        return all;
    }

    private static void pair(Tree a, Tree b) {
        String where = a + " and " + b;
        for (int kind = 0; kind < KINDS; kind++) {
            Twin twin = new Twin();
            twin.load(0, a);
            twin.load(1, b);
            twin.load(2, Tree.ZERO);
            twin.call(where, "compare", 0, 1);
            makes(twin, where, 2, "op", kind, 0, 1, 2);
        }
    }

    /** The call is made, and the slot that it writes is read. */
    private static void makes(Twin twin, String where, int to, String name, int... arguments) {
        twin.call(where, name, arguments);
        twin.sameSlot(Calls.text(name, arguments) + " at " + where, to);
    }

    private static Twin with(Tree a) {
        Twin twin = new Twin();
        twin.load(0, a);
        twin.load(1, Tree.ZERO);
        return twin;
    }

    private static void alone(Tree a) {
        String where = a.toString();
        Twin first = with(a);
        first.call(where, "kind", 0);
        first.call(where, "size", 0);
        makes(first, where, 1, "raise", 0, 2, 1);
        for (int n = 0; n < 4; n++) {
            Twin twin = with(a);
            twin.call(where, "value", 0, n);
            twin.call(where, "fast", 0, n, 60);
            twin.call(where, "fast", 0, n, 2000);
            makes(twin, where, 1, "member", 0, n, 1);
            makes(twin, where, 1, "step", 0, n, 1);
        }
    }

    private static void hydra(Tree a) {
        for (int way = 0; way < WAYS; way++) {
            Twin twin = with(a);
            makes(twin, a.toString(), 1, "chop", 0, way, 0, 1);
            makes(twin, a.toString(), 1, "chop", 0, way, 2, 1);
        }
    }
}

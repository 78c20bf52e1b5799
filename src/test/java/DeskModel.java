import java.math.BigInteger;
import java.util.ArrayList;
import java.util.Arrays;
import java.util.List;

/** What the document promises of a desk, over trees: the tests hold the program against it. */
final class DeskModel {
    static final int NONE = -1;
    private static final BigInteger BEYOND = BigInteger.valueOf(1000000001);

    final Tree[] slots = new Tree[8];
    final List<Tree> records = new ArrayList<>();

    DeskModel() {
        Arrays.fill(slots, Tree.ZERO);
    }

    private static void check(boolean fine) {
        if (!fine) {
            throw new IllegalArgumentException();
        }
    }

    private static boolean within(long n, long least, long most) {
        return least <= n && n <= most;
    }

    static boolean hasRoom(Tree tree) {
        BigInteger most = BigInteger.valueOf(1000000);
        return tree.size() <= 20 && tree.greatestCoefficient().compareTo(most) <= 0;
    }

    private static Tree room(Tree tree) {
        if (!hasRoom(tree)) {
            throw new IllegalStateException();
        }
        return tree;
    }

    private static void slotsAre(int... numbers) {
        for (int number : numbers) {
            if (!within(number, 0, 7)) {
                throw new IndexOutOfBoundsException();
            }
        }
    }

    private int put(Tree tree, int to) {
        slots[to] = room(tree);
        return tree.size();
    }

    void finite(int n, int to) {
        slotsAre(to);
        check(within(n, 0, 1000000));
        put(Tree.number(n), to);
    }

    void raise(int e, int c, int to) {
        slotsAre(e, to);
        check(within(c, 1, 1000000));
        put(Tree.power(slots[e], BigInteger.valueOf(c)), to);
    }

    int op(int kind, int a, int b, int to) {
        slotsAre(a, b, to);
        check(within(kind, 0, 7));
        Tree x = slots[a];
        Tree y = slots[b];
        check(kind != 5 || Tree.order(x, y) >= 0);
        check(kind < 6 || !y.isZero());
        switch (kind) {
            case 0: return put(Tree.sum(x, y), to);
            case 1: return put(Tree.product(x, y), to);
            case 2: return put(power(x, y), to);
            case 3: return put(Tree.naturalSum(x, y), to);
            case 4: return put(Tree.naturalProduct(x, y), to);
            case 5: return put(Tree.difference(x, y), to);
            default: return put(Tree.division(x, y)[kind - 6], to);
        }
    }

    private static Tree power(Tree a, Tree b) {
        if (b.isZero() || a.same(Tree.ONE)) {
            return Tree.ONE;
        }
        if (a.isZero()) {
            return Tree.ZERO;
        }
        int m = b.isSuccessor() ? b.last().coefficient().intValueExact() : 0;
        Tree limit = b.isSuccessor() ? b.withoutLast() : b;
        return a.isInfinite() ? powerOfInfinite(a, limit, m) : powerOfNumber(a, limit, m);
    }

    private static Tree powerOfNumber(Tree a, Tree limit, int m) {
        Tree exponent = Tree.ZERO;
        for (Tree.Term term : limit.terms) {
            Tree f = term.exponent();
            exponent = exponent.with(f.isInfinite() ? f : f.before(), term.coefficient());
        }
        // 2 to the power of 20 is beyond the greatest coefficient already.
        BigInteger coefficient = a.first().coefficient().pow(Math.min(m, 20));
        return Tree.power(exponent, coefficient);
    }

    private static Tree powerOfInfinite(Tree a, Tree limit, int m) {
        if (m > 20) {
            throw new IllegalStateException();
        }
        Tree total = Tree.ONE;
        for (int i = 0; i < m; i++) {
            total = room(Tree.product(total, a));
        }
        Tree exponent = Tree.product(a.first().exponent(), limit);
        return Tree.product(Tree.power(exponent, BigInteger.ONE), total);
    }

    int member(int a, int n, int to) {
        slotsAre(a, to);
        check(slots[a].isLimit() && within(n, 0, 1000000));
        return put(slots[a].member(n), to);
    }

    int step(int a, int base, int to) {
        slotsAre(a, to);
        check(!slots[a].isZero() && within(base, 2, 1000000));
        Tree tree = slots[a];
        while (tree.isLimit()) {
            tree = room(tree.member(base));
        }
        return put(tree.before(), to);
    }

    int chop(int a, int way, int copies, int to) {
        slotsAre(a, to);
        check(way >= 0 && within(copies, 0, 1000));
        List<Tree> chain = new ArrayList<>();
        int digits = way;
        for (Tree tree = slots[a]; chain.isEmpty() || !tree.isZero(); digits /= 8) {
            chain.add(tree);
            check(digits % 8 < tree.terms.size());
            tree = tree.terms.get(digits % 8).exponent();
        }
        int last = chain.size() - 1;
        Tree became = chain.get(last).thinned(Tree.ZERO);
        for (int i = last - 1; i >= 0; i--) {
            Tree grown = Tree.power(became, BigInteger.valueOf(i == last - 1 ? copies + 1 : 1));
            became = Tree.naturalSum(chain.get(i).thinned(chain.get(i + 1)), grown);
        }
        return put(became, to);
    }

    int start(int n, int base, int to) {
        slotsAre(to);
        check(within(n, 0, 1000000000) && within(base, 2, 1000));
        return put(inBase(n, base), to);
    }

    private static Tree inBase(int n, int base) {
        Tree tree = Tree.ZERO;
        int rest = n;
        for (int exponent = 0; rest > 0; exponent++) {
            if (rest % base > 0) {
                Tree term = Tree.power(inBase(exponent, base), BigInteger.valueOf(rest % base));
                tree = Tree.naturalSum(term, tree);
            }
            rest /= base;
        }
        return tree;
    }

    int compare(int a, int b) {
        slotsAre(a, b);
        return Tree.order(slots[a], slots[b]);
    }

    int kind(int a) {
        slotsAre(a);
        return slots[a].isZero() ? 0 : slots[a].isSuccessor() ? 1 : 2;
    }

    int size(int a) {
        slotsAre(a);
        return slots[a].size();
    }

    int at(int a, int i) {
        slotsAre(a);
        List<Integer> writing = slots[a].writing();
        return within(i, 0, writing.size() - 1) ? writing.get(i) : NONE;
    }

    int value(int a, int n) {
        slotsAre(a);
        check(within(n, 0, 1000));
        BigInteger worth = worth(slots[a], n);
        return worth.compareTo(BEYOND) < 0 ? worth.intValueExact() : NONE;
    }

    /** With a base below 2 no number on the way is beyond the greatest. */
    private static BigInteger worth(Tree tree, int n) {
        BigInteger worth = BigInteger.ZERO;
        for (Tree.Term term : tree.terms) {
            int exponent = worth(term.exponent(), n).intValueExact();
            int enough = n < 2 ? Math.min(exponent, 1) : Math.min(exponent, 30);
            worth = worth.add(BigInteger.valueOf(n).pow(enough).multiply(term.coefficient()));
        }
        return worth.min(BEYOND);
    }

    int fast(int a, int n, int fuel) {
        slotsAre(a);
        check(within(n, 0, 1000) && within(fuel, 0, 2000));
        List<Tree> pile = new ArrayList<>(List.of(slots[a]));
        List<Integer> times = new ArrayList<>(List.of(1));
        int v = n;
        for (int applied = 0; !pile.isEmpty(); applied++) {
            if (applied == fuel) {
                return NONE;
            }
            int top = pile.size() - 1;
            Tree tree = pile.get(top);
            times.set(top, times.get(top) - 1);
            if (times.get(top) == 0) {
                pile.remove(top);
                times.remove(top);
            }
            if (tree.isZero()) {
                v++;
            } else if (tree.isLimit() || v > 0) {
                pile.add(tree.isLimit() ? room(tree.member(v)) : tree.before());
                times.add(tree.isLimit() ? 1 : v);
            }
            if (v > 1000000 || pile.size() > 12) {
                return NONE;
            }
        }
        return v;
    }

    int record(int a) {
        slotsAre(a);
        if (records.size() == 12) {
            throw new IllegalStateException();
        }
        records.add(slots[a]);
        return records.size();
    }

    int rise() {
        for (int i = 1; i < records.size(); i++) {
            if (Tree.order(records.get(i), records.get(i - 1)) >= 0) {
                return i;
            }
        }
        return NONE;
    }

    void replace(int i, int a) {
        slotsAre(a);
        records.set(i, slots[a]);
    }

    void recall(int i, int to) {
        slotsAre(to);
        slots[to] = records.get(i);
    }

    int wipe() {
        int before = records.size();
        records.clear();
        return before;
    }
}

import java.math.BigInteger;
import java.util.ArrayList;
import java.util.List;

/** A desk with what the tests need around it: ordinals go in and come out as trees. */
final class Bench {
    /** An object is used for no more calls: a test that makes more would ask what is not promised. */
    static final int MOST_CALLS = 512;
    private static final int MOST_NUMBERS = 3 * 20;

    final OrdinalDesk desk = new OrdinalDesk();
    /** How many calls went into loading and reading, and those that the tests add to them. */
    int calls = 0;
    private static int wrong = 0;

    static void due(String what, Object got, Object want) {
        if (!got.equals(want)) {
            wrong++;
            if (wrong <= 50) {
                System.out.println(what + " answered " + got + ", due is " + want);
            }
        }
    }

    static void finish() {
        System.out.println(wrong == 0 ? "all answers are as due" : wrong + " answers are not as due");
        if (wrong != 0) {
            System.exit(1);
        }
    }

    /** Makes the slot that ordinal; slots behind it may change, those before it do not. */
    void load(int slot, Tree tree) {
        desk.finite(0, slot);
        calls++;
        List<Tree.Term> terms = new ArrayList<>(tree.terms);
        terms.sort((x, y) -> slotsFor(y.exponent()) - slotsFor(x.exponent()));
        for (int i = 0; i < terms.size(); i++) {
            int part = i == 0 ? slot : slot + 1;
            loadTerm(part, terms.get(i));
            if (i > 0) {
                desk.op(3, slot, part, slot);
                calls++;
            }
        }
    }

    void load(int slot, String text) {
        load(slot, Tree.of(text));
    }

    private void loadTerm(int slot, Tree.Term term) {
        int coefficient = term.coefficient().intValueExact();
        calls++;
        if (term.exponent().isZero()) {
            desk.finite(coefficient, slot);
        } else {
            load(slot, term.exponent());
            desk.raise(slot, coefficient, slot);
        }
    }

    private static int slotsFor(Tree tree) {
        List<Integer> parts = new ArrayList<>();
        for (Tree.Term term : tree.terms) {
            parts.add(slotsFor(term.exponent()));
        }
        parts.sort((x, y) -> y - x);
        int slots = 1;
        for (int i = 0; i < parts.size(); i++) {
            slots = Math.max(slots, parts.get(i) + (i == 0 ? 0 : 1));
        }
        return slots;
    }

    /** At most one number more than a writing of the greatest size has, so that it ends in any case. */
    Tree read(int slot) {
        List<Integer> writing = new ArrayList<>();
        int cell = desk.at(slot, 0);
        while (cell != OrdinalDesk.NONE && writing.size() <= MOST_NUMBERS) {
            writing.add(cell);
            cell = desk.at(slot, writing.size());
        }
        calls += writing.size() + 1;
        return Tree.ofWriting(writing);
    }

    /** w to the power of w to the power of .., of that size, with a last exponent of that number. */
    static Tree tower(int size, int number) {
        Tree tree = Tree.number(number);
        for (int i = 1; i < size; i++) {
            tree = Tree.power(tree, BigInteger.ONE);
        }
        return tree;
    }
}

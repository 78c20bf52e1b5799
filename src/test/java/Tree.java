import java.math.BigInteger;
import java.util.ArrayList;
import java.util.List;

/**
 * An ordinal as the tests see it: a list of terms of any size, with arithmetic written down
 * from the document's words and without a thought for room.
 */
final class Tree {
    record Term(Tree exponent, BigInteger coefficient) { }

    static final Tree ZERO = new Tree(List.of());
    static final Tree ONE = number(1);

    final List<Term> terms;

    Tree(List<Term> terms) {
        this.terms = List.copyOf(terms);
    }

    static Tree number(long n) {
        return n == 0 ? ZERO : power(ZERO, BigInteger.valueOf(n));
    }

    static Tree power(Tree exponent, BigInteger coefficient) {
        return new Tree(List.of(new Term(exponent, coefficient)));
    }

    boolean isZero() {
        return terms.isEmpty();
    }

    boolean isInfinite() {
        return !isZero() && !first().exponent.isZero();
    }

    boolean isSuccessor() {
        return !isZero() && last().exponent.isZero();
    }

    boolean isLimit() {
        return !isZero() && !isSuccessor();
    }

    boolean same(Tree other) {
        return order(this, other) == 0;
    }

    Term first() {
        return terms.get(0);
    }

    Term last() {
        return terms.get(terms.size() - 1);
    }

    Tree without(int from, int to) {
        List<Term> kept = new ArrayList<>(terms.subList(0, from));
        kept.addAll(terms.subList(to, terms.size()));
        return new Tree(kept);
    }

    Tree withoutFirst() {
        return without(0, 1);
    }

    Tree withoutLast() {
        return without(terms.size() - 1, terms.size());
    }

    Tree with(Tree exponent, BigInteger coefficient) {
        if (coefficient.signum() == 0) {
            return this;
        }
        List<Term> more = new ArrayList<>(terms);
        more.add(new Term(exponent, coefficient));
        return new Tree(more);
    }

    int size() {
        int size = terms.size();
        for (Term term : terms) {
            size += term.exponent.size();
        }
        return size;
    }

    BigInteger greatestCoefficient() {
        BigInteger greatest = BigInteger.ZERO;
        for (Term term : terms) {
            greatest = greatest.max(term.coefficient).max(term.exponent.greatestCoefficient());
        }
        return greatest;
    }

    static int order(Tree a, Tree b) {
        for (int i = 0; ; i++) {
            boolean aEnds = i == a.terms.size();
            boolean bEnds = i == b.terms.size();
            if (aEnds || bEnds) {
                return aEnds && bEnds ? 0 : aEnds ? -1 : 1;
            }
            int order = order(a.terms.get(i).exponent, b.terms.get(i).exponent);
            if (order == 0) {
                order = a.terms.get(i).coefficient.compareTo(b.terms.get(i).coefficient);
            }
            if (order != 0) {
                return order;
            }
        }
    }

    List<Integer> writing() {
        List<Integer> writing = new ArrayList<>();
        for (Term term : terms) {
            writing.add(1);
            writing.addAll(term.exponent.writing());
            writing.add(0);
            writing.add(term.coefficient.intValueExact());
        }
        return writing;
    }

    /** The tree of a writing, which must be one. */
    static Tree ofWriting(List<Integer> writing) {
        int[] place = {0};
        Tree tree = readTerms(writing, place);
        if (place[0] != writing.size()) {
            throw new AssertionError("not a writing: " + writing);
        }
        return tree;
    }

    private static Tree readTerms(List<Integer> writing, int[] place) {
        Tree tree = ZERO;
        while (place[0] < writing.size() && writing.get(place[0]) == 1) {
            place[0]++;
            Tree exponent = readTerms(writing, place);
            if (place[0] + 1 >= writing.size() || writing.get(place[0]) != 0) {
                throw new AssertionError("not a writing: " + writing);
            }
            tree = tree.with(exponent, BigInteger.valueOf(writing.get(place[0] + 1)));
            place[0] += 2;
        }
        return tree;
    }

    /** The tree of a text like w^(w+1)*2+w+3. */
    static Tree of(String text) {
        int[] place = {0};
        Tree tree = readSum(text.replace(" ", ""), place);
        if (place[0] != text.replace(" ", "").length()) {
            throw new AssertionError("not an ordinal: " + text);
        }
        return tree;
    }

    private static Tree readSum(String text, int[] place) {
        Tree sum = ZERO;
        while (true) {
            Tree exponent = ZERO;
            BigInteger coefficient = BigInteger.ONE;
            if (text.charAt(place[0]) == 'w') {
                place[0]++;
                exponent = skips(text, place, '^') ? readExponent(text, place) : ONE;
                if (skips(text, place, '*')) {
                    coefficient = readNumber(text, place);
                }
            } else {
                coefficient = readNumber(text, place);
            }
            sum = sum.with(exponent, coefficient);
            if (!skips(text, place, '+')) {
                return sum;
            }
        }
    }

    private static Tree readExponent(String text, int[] place) {
        if (skips(text, place, '(')) {
            Tree inside = readSum(text, place);
            skips(text, place, ')');
            return inside;
        }
        if (text.charAt(place[0]) == 'w') {
            place[0]++;
            return power(skips(text, place, '^') ? readExponent(text, place) : ONE, BigInteger.ONE);
        }
        return number(readNumber(text, place).longValueExact());
    }

    private static BigInteger readNumber(String text, int[] place) {
        int from = place[0];
        while (place[0] < text.length() && Character.isDigit(text.charAt(place[0]))) {
            place[0]++;
        }
        return new BigInteger(text.substring(from, place[0]));
    }

    private static boolean skips(String text, int[] place, char sign) {
        boolean there = place[0] < text.length() && text.charAt(place[0]) == sign;
        if (there) {
            place[0]++;
        }
        return there;
    }

    @Override
    public String toString() {
        if (isZero()) {
            return "0";
        }
        StringBuilder text = new StringBuilder();
        for (Term term : terms) {
            text.append(text.length() == 0 ? "" : "+");
            if (term.exponent.isZero()) {
                text.append(term.coefficient);
                continue;
            }
            text.append(term.exponent.same(ONE) ? "w" : "w^(" + term.exponent + ")");
            text.append(term.coefficient.equals(BigInteger.ONE) ? "" : "*" + term.coefficient);
        }
        return text.toString();
    }

    static Tree sum(Tree a, Tree b) {
        if (b.isZero()) {
            return a;
        }
        Tree sum = ZERO;
        BigInteger more = BigInteger.ZERO;
        for (Term term : a.terms) {
            int order = order(term.exponent, b.first().exponent);
            if (order > 0) {
                sum = sum.with(term.exponent, term.coefficient);
            } else if (order == 0) {
                more = term.coefficient;
            }
        }
        sum = sum.with(b.first().exponent, b.first().coefficient.add(more));
        for (Term term : b.withoutFirst().terms) {
            sum = sum.with(term.exponent, term.coefficient);
        }
        return sum;
    }

    static Tree product(Tree a, Tree b) {
        if (a.isZero() || b.isZero()) {
            return ZERO;
        }
        Tree product = ZERO;
        Term lead = a.first();
        for (Term term : b.terms) {
            if (!term.exponent.isZero()) {
                product = product.with(sum(lead.exponent, term.exponent), term.coefficient);
                continue;
            }
            product = product.with(lead.exponent, lead.coefficient.multiply(term.coefficient));
            for (Term other : a.withoutFirst().terms) {
                product = product.with(other.exponent, other.coefficient);
            }
        }
        return product;
    }

    static Tree naturalSum(Tree a, Tree b) {
        List<Term> all = new ArrayList<>(a.terms);
        all.addAll(b.terms);
        all.sort((x, y) -> order(y.exponent, x.exponent));
        Tree sum = ZERO;
        for (Term term : all) {
            if (!sum.isZero() && sum.last().exponent.same(term.exponent)) {
                BigInteger both = sum.last().coefficient.add(term.coefficient);
                sum = sum.withoutLast().with(term.exponent, both);
            } else {
                sum = sum.with(term.exponent, term.coefficient);
            }
        }
        return sum;
    }

    static Tree naturalProduct(Tree a, Tree b) {
        Tree product = ZERO;
        for (Term x : a.terms) {
            for (Term y : b.terms) {
                Tree exponent = naturalSum(x.exponent, y.exponent);
                BigInteger coefficient = x.coefficient.multiply(y.coefficient);
                product = naturalSum(product, power(exponent, coefficient));
            }
        }
        return product;
    }

    /** The x with b + x = a, found by trying: it is an end of a, with less of its first term or all. */
    static Tree difference(Tree a, Tree b) {
        for (int from = a.terms.size(); from >= 0; from--) {
            Tree end = a.without(0, from);
            if (sum(b, end).same(a)) {
                return end;
            }
            if (end.isZero() || from >= b.terms.size()) {
                continue;
            }
            BigInteger less = end.first().coefficient.subtract(b.terms.get(from).coefficient);
            if (less.signum() > 0) {
                Tree shorter = sum(power(end.first().exponent, less), end.withoutFirst());
                if (sum(b, shorter).same(a)) {
                    return shorter;
                }
            }
        }
        throw new AssertionError("no difference of " + a + " and " + b);
    }

    /** Quotient and remainder: what is left is made less by the largest multiple, as long as it goes. */
    static Tree[] division(Tree a, Tree b) {
        Tree quotient = ZERO;
        Tree rest = a;
        while (order(rest, b) >= 0) {
            Tree more = largestTermOfQuotient(rest, b);
            quotient = sum(quotient, more);
            rest = difference(a, product(b, quotient));
        }
        if (!sum(product(b, quotient), rest).same(a)) {
            throw new AssertionError("no quotient of " + a + " and " + b);
        }
        return new Tree[] {quotient, rest};
    }

    private static Tree largestTermOfQuotient(Tree rest, Tree b) {
        Tree exponent = difference(rest.first().exponent, b.first().exponent);
        BigInteger most = rest.first().coefficient;
        BigInteger least = BigInteger.ONE;
        while (least.compareTo(most) < 0) {
            BigInteger middle = least.add(most).add(BigInteger.ONE).shiftRight(1);
            if (order(product(b, power(exponent, middle)), rest) <= 0) {
                least = middle;
            } else {
                most = middle.subtract(BigInteger.ONE);
            }
        }
        return power(exponent, least);
    }

    Tree before() {
        Tree less = withoutLast();
        return less.with(ZERO, last().coefficient.subtract(BigInteger.ONE));
    }

    Tree member(int n) {
        Term last = last();
        Tree member = withoutLast().with(last.exponent, last.coefficient.subtract(BigInteger.ONE));
        if (last.exponent.isSuccessor()) {
            return member.with(last.exponent.before(), BigInteger.valueOf(n));
        }
        return member.with(last.exponent.member(n), BigInteger.ONE);
    }

    Tree thinned(Tree exponent) {
        Tree thinned = ZERO;
        for (Term term : terms) {
            boolean hit = term.exponent.same(exponent);
            thinned = thinned.with(term.exponent,
                    hit ? term.coefficient.subtract(BigInteger.ONE) : term.coefficient);
        }
        return thinned;
    }
}

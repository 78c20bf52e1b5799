/** The edges in what the document says under "Terms", up to FAST: a check for each sentence with one. */
public final class TermsEdgeTest {
    private static final String EIGHT_TERMS = "w^7+w^6+w^5+w^4+w^3+w^2+w+9";
    private static final int LEVELS_OF_A_WAY = 11;

    public static void main(String[] args) {
        ordinals();
        order();
        sizeAndWriting();
        successorsAndLimits();
        thinned();
        sum();
        product();
        power();
        powerOfNumbers();
        powerOfInfinite();
        naturalOnes();
        difference();
        quotient();
        member();
        step();
        chopWay();
        chopDeepWay();
        chopHeads();
        value();
        fast();
        Bench.finish();
    }

    private static void op(int kind, String a, String b, String want) {
        Stand.with(a, b).gives(2, want, "op", kind, 0, 1, 2);
    }

    private static void ordinals() {
        Stand.sentence("COEFFICIENT c is 1 .. 1000000; the exponents get less from each term to the next");
        Stand.with("w").makes(1, "w^w", "raise", 0, 1, 1);
        Stand.with("w").makes(1, "w^w*1000000", "raise", 0, 1000000, 1);
        op(3, "w+1", "w^2+1", "w^2+w+2");
        op(5, "w*2+1", "w*2", "1");
        chop("w^(w+4)*2+w^9", 0, 2, "w^(w+4)+w^9+w^7");
        chop("w^(w+4)*2+w^3", 0, 2, "w^(w+4)+w^7+w^3");
        Stand.sentence("0 is the one without terms; 1 .. 1000000 are those of one term with the exponent 0");
        Stand.with("0").answers(0, "size", 0);
        Stand.with("0").answers(-1, "at", 0, 0);
        Stand.with("1").answers(1, "size", 0);
        Stand.with("1000000").answers(1, "size", 0);
        Stand.with("1000000").answers(1000000, "at", 0, 2);
        Stand.with("0").makes(1, "1", "raise", 0, 1, 1);
        Stand.with("0").makes(1, "1000000", "raise", 0, 1000000, 1);
        Stand.sentence("All others but 0 are INFINITE");
        op(2, "1000000", "w", "w");
        op(2, "w", "w", "w^w");
        op(2, "2", "w^1000000", "w^(w^999999)");
        op(2, "2", "w^w", "w^(w^w)");
    }

    private static void compare(String a, String b, int want) {
        Stand.with(a, b).answers(want, "compare", 0, 1);
        Stand.with(a, b).answers(-want, "compare", 1, 0);
    }

    private static void order() {
        Stand.sentence("at the first place where they differ, that one is less that has no term there");
        compare("0", "1", -1);
        compare("0", "w", -1);
        compare("w", "w+1", -1);
        compare("w^2+w", "w^2+w+1", -1);
        compare("w^w", "w^(w+1)", -1);
        compare("w^(w^w)", "w^(w^w+1)", -1);
        Stand.sentence("or the lesser exponent");
        compare("1000000", "w", -1);
        compare("w*1000000+1000000", "w^2", -1);
        compare("w^2+1000000", "w^2+w", -1);
        compare("w^1000000*1000000", "w^w", -1);
        compare("w^(w+1)*9+w^w", "w^(w+2)", -1);
        Stand.sentence("or, with the same one, the lesser coefficient");
        compare("1", "2", -1);
        compare("999999", "1000000", -1);
        compare("w*2+1000000", "w*3", -1);
        compare("w^(w*2+5)", "w^(w*3)", -1);
        compare("w^w*999999", "w^w*1000000", -1);
        Stand.sentence("of two different ordinals");
        compare("0", "0", 0);
        compare("1000000", "1000000", 0);
        compare("w^(w+1)*2+w+3", "w^(w+1)*2+w+3", 0);
    }

    private static void sizeAndWriting() {
        Stand.sentence("SIZE: how many terms it has, and the sizes of their exponents");
        Stand.with("0").answers(0, "size", 0);
        Stand.with("w").answers(2, "size", 0);
        Stand.with("w^(w^w+1)*9+w+2").answers(8, "size", 0);
        Stand.with(Bench.tower(20, 3).toString()).answers(20, "size", 0);
        Stand.sentence("of each term, one behind the other: 1, the writing of its exponent, 0, its coefficient");
        int[] writing = {1, 1, 1, 0, 4, 0, 2, 1, 0, 6, 0, 3, 1, 0, 5};
        for (int i = 0; i < writing.length; i++) {
            Stand.with("w^(w^4*2+6)*3+5").answers(writing[i], "at", 0, i);
        }
        Stand.with("w^(w^4*2+6)*3+5").answers(-1, "at", 0, writing.length);
    }

    private static void successorsAndLimits() {
        Stand.sentence("It is a SUCCESSOR when its last term has the exponent 0");
        Stand.with("1").answers(1, "kind", 0);
        Stand.with("1000000").answers(1, "kind", 0);
        Stand.with("w+1").answers(1, "kind", 0);
        Stand.with("w^w+w^3+9").answers(1, "kind", 0);
        Stand.sentence("the one BEFORE it has 1 less there (no such term, if that was 1)");
        step("1", 2, "0");
        step("2", 2, "1");
        step("1000000", 2, "999999");
        step("w+1", 2, "w");
        step("w+2", 2, "w+1");
        member("w^(w+1)", 4, "w^w*4");
        member("w^(w+2)", 4, "w^(w+1)*4");
        Stand.sentence("It is a LIMIT when it is not 0, and no successor");
        Stand.with("0").answers(0, "kind", 0);
        Stand.with("w").answers(2, "kind", 0);
        Stand.with("w^(w+1)").answers(2, "kind", 0);
        Stand.with("w^2+w*1000000").answers(2, "kind", 0);
    }

    private static void thinned() {
        Stand.sentence("THINNED by w^e: its term with the exponent e has 1 less (or goes)");
        chop("w+2", 1, 0, "w+1");
        chop("w+1", 1, 0, "w");
        chop("1", 0, 0, "0");
        chop("w^2*2+5", 0, 0, "w^2+w+5");
        chop("w^2+5", 0, 0, "w+5");
        chop("w^w*1000000", 0, 0, "w^w*999999+w");
    }

    private static void sum() {
        Stand.sentence("0 SUM a + b: a if b is 0");
        op(0, "0", "0", "0");
        op(0, "w^w+3", "0", "w^w+3");
        op(0, "0", "w^w+3", "w^w+3");
        Stand.sentence("the terms of a whose exponents are greater than f, and then those of b");
        op(0, "w^2+w+1", "w^3", "w^3");
        op(0, "w^3+1", "w^2+w", "w^3+w^2+w");
        op(0, "w^(w+1)+w^5", "w^w", "w^(w+1)+w^w");
        op(0, "1000000", "w", "w");
        Stand.sentence("the first of them with c more if a has a term w^f c");
        op(0, "w^2*2+w*3+4", "w^2*5+6", "w^2*7+6");
        op(0, "w^2*2+w*3+4", "w*5+6", "w^2*2+w*8+6");
        op(0, "w^2*2+w*3+4", "6", "w^2*2+w*3+10");
        op(0, "w^2*2+4", "w*5", "w^2*2+w*5");
    }

    private static void product() {
        Stand.sentence("1 PRODUCT a b: 0 if one is 0");
        op(1, "0", "0", "0");
        op(1, "0", "w+1", "0");
        op(1, "w+1", "0", "0");
        Stand.sentence("for each term w^f d of b with f not 0: w^(e + f) d");
        op(1, "w*3+1", "w*2", "w^2*2");
        op(1, "7", "w*2", "w*2");
        op(1, "w^w", "w^w+w", "w^(w*2)+w^(w+1)");
        op(1, "w", "w^w", "w^w");
        Stand.sentence("and then, if b has a term w^0 d: w^e (c d), and the other terms of a");
        op(1, "w*3+1", "1", "w*3+1");
        op(1, "w*3+1", "2", "w*6+1");
        op(1, "w*3+1", "w+2", "w^2+w*6+1");
        op(1, "7", "2", "14");
    }

    private static void power() {
        Stand.sentence("2 POWER a^b: 1 if b is 0 or a is 1");
        op(2, "0", "0", "1");
        op(2, "1", "0", "1");
        op(2, "1000000", "0", "1");
        op(2, "w+1", "0", "1");
        op(2, "1", "1", "1");
        op(2, "1", "1000000", "1");
        op(2, "1", "w^w+5", "1");
        op(2, "2", "1", "2");
        Stand.sentence("otherwise 0 if a is 0");
        op(2, "0", "1", "0");
        op(2, "0", "1000000", "0");
        op(2, "0", "w^w", "0");
        Stand.sentence("m be the coefficient of b's term with the exponent 0 (0 without), and B be b without it");
        op(2, "3", "w", "w");
        op(2, "3", "w+1", "w*3");
        op(2, "3", "2", "9");
        op(2, "w^2", "w", "w^w");
        op(2, "w^2", "w+1", "w^(w+2)");
        op(2, "w^2", "2", "w^4");
    }

    private static void powerOfNumbers() {
        Stand.sentence("(g is the one before f if f is not infinite, otherwise f)");
        op(2, "2", "w*5", "w^5");
        op(2, "2", "w*1000000", "w^1000000");
        op(2, "2", "w^2*5", "w^(w*5)");
        op(2, "2", "w^w*5+w^2+w*3", "w^(w^w*5+w+3)");
        op(2, "2", "w^(w+1)", "w^(w^(w+1))");
        Stand.sentence("whose coefficient is a^m");
        op(2, "7", "1", "7");
        op(2, "7", "2", "49");
        op(2, "7", "w+2", "w*49");
    }

    private static void powerOfInfinite() {
        Stand.sentence("If a is infinite, with the first exponent e: the product of w^(e B) and a^m");
        op(2, "w", "1", "w");
        op(2, "w*2+3", "1", "w*2+3");
        op(2, "w*2+3", "2", "w^2*2+w*6+3");
        op(2, "w*2+3", "3", "w^3*2+w^2*6+w*6+3");
        op(2, "w*2+3", "w", "w^w");
        op(2, "w*2+3", "w+1", "w^(w+1)*2+w^w*3");
        op(2, "w^w", "w", "w^(w^2)");
    }

    private static void naturalOnes() {
        Stand.sentence("3 NATURAL SUM a # b: the terms of both, those with the same exponent as one");
        op(3, "0", "0", "0");
        op(3, "w", "0", "w");
        op(3, "0", "w", "w");
        op(3, "1", "w", "w+1");
        op(3, "w", "1", "w+1");
        op(3, "w^2+w*2+3", "w*4+5", "w^2+w*6+8");
        Stand.sentence("4 NATURAL PRODUCT: the natural sum of w^(e # f) (c d) for all terms");
        op(4, "0", "0", "0");
        op(4, "0", "w+1", "0");
        op(4, "w+1", "0", "0");
        op(4, "1", "w+1", "w+1");
        op(4, "2", "w+1", "w*2+2");
        op(4, "w+2", "w+3", "w^2+w*5+6");
        op(4, "w", "w^w", "w^(w+1)");
    }

    private static void difference() {
        Stand.sentence("5 DIFFERENCE: the ordinal x with b + x = a (a is not less than b)");
        op(5, "0", "0", "0");
        op(5, "w+1", "w+1", "0");
        op(5, "w+1", "0", "w+1");
        op(5, "w+1", "w", "1");
        op(5, "w", "1000000", "w");
        op(5, "w*2+5", "w*2+4", "1");
        op(5, "w*2+5", "w+1000000", "w+5");
        op(5, "w^2+w", "w^2+3", "w");
    }

    private static void divide(String a, String b, String quotient, String remainder) {
        op(6, a, b, quotient);
        op(7, a, b, remainder);
    }

    private static void quotient() {
        Stand.sentence("q and r with a = b q + r, r less than b (b is not 0)");
        divide("0", "1", "0", "0");
        divide("1", "1", "1", "0");
        divide("4", "5", "0", "4");
        divide("5", "5", "1", "0");
        divide("9", "5", "1", "4");
        divide("10", "5", "2", "0");
        divide("w*2", "w+5", "1", "w");
        divide("w*2+4", "w+5", "1", "w+4");
        divide("w*2+5", "w+5", "2", "0");
        divide("w*2+6", "w+5", "2", "1");
        divide("w+4", "w+5", "0", "w+4");
        divide("w+5", "w+5", "1", "0");
        divide("w*3+9", "w*2+5", "1", "w+9");
        divide("w^2+4", "w+5", "w", "4");
        divide("w^w", "w^w*2", "0", "w^w");
    }

    private static void member(String a, int n, String want) {
        Stand.with(a).gives(1, want, "member", 0, n, 1);
    }

    private static void member() {
        Stand.sentence("its other terms; w^e (c - 1), unless c is 1");
        member("w^2+w", 5, "w^2+5");
        member("w", 5, "5");
        member("w*2", 5, "w+5");
        member("w^w*1000000", 5, "w^w*999999+w^5");
        Stand.sentence("if e is a successor, w^d n with d before e (nothing if n is 0)");
        member("w", 0, "0");
        member("w", 1, "1");
        member("w^2", 0, "0");
        member("w^2", 1, "w");
        member("w^2*2", 0, "w^2");
        member("w^(w+1)", 1, "w^w");
        member("w^(w+1)", 0, "0");
        Stand.sentence("if e is a limit, w^(member n of e)");
        member("w^w", 0, "1");
        member("w^w", 1, "w");
        member("w^w*2", 0, "w^w+1");
        member("w^(w^w)", 0, "w");
        member("w^(w*2)", 0, "w^w");
        member("w^(w^2)", 3, "w^(w*3)");
    }

    private static void step(String a, int base, String want) {
        Stand.with(a).gives(1, want, "step", 0, base, 1);
    }

    private static void step() {
        Stand.sentence("as long as it is a limit, its member base; then the one before it");
        step("w+5", 3, "w+4");
        step("w", 2, "1");
        step("w", 3, "2");
        step("w*2", 3, "w+2");
        step("w^2", 2, "w+1");
        step("w^w", 3, "w^2*2+w*2+2");
        Stand.sentence("(So does a number in that base fall by 1.)");
        int[] bases = {2, 3, 10};
        for (int base : bases) {
            for (int n = 1; n <= 30; n++) {
                Bench less = new Bench();
                less.desk.start(n - 1, base, 0);
                Bench bench = new Bench();
                bench.desk.start(n, base, 0);
                step(bench.read(0).toString(), base, less.read(0).toString());
            }
        }
    }

    private static void chop(String a, int way, int copies, String want) {
        Stand.with(a).gives(1, want, "chop", 0, way, copies, 1);
    }

    private static void chopWay() {
        Stand.sentence("y the exponent of its term number way % 8 (from 0)");
        chop(EIGHT_TERMS, 0, 0, "w^6*2+w^5+w^4+w^3+w^2+w+9");
        chop(EIGHT_TERMS, 6, 0, "w^7+w^6+w^5+w^4+w^3+w^2+10");
        chop(EIGHT_TERMS, 7, 0, "w^7+w^6+w^5+w^4+w^3+w^2+w+8");
        // Of nine terms the last can't be named: way 8 begins with term 0 again.
        chop("w^8+" + EIGHT_TERMS, 7, 0, "w^8+w^7+w^6+w^5+w^4+w^3+w^2+10");
        chop("w^8+" + EIGHT_TERMS, 8, 0, Stand.ARGUMENT);
        chop("w^(w+1)+w^8+w^7+w^6+w^5+w^4+w^3+w^2", 8, 0, "w^w+w^8+w^7+w^6+w^5+w^4+w^3+w^2");
        Stand.sentence("z that of y's term number way / 8 % 8, and so on");
        String deep = "w^(" + EIGHT_TERMS + ")";
        chop(deep, 7 * 8, 2, "w^(w^7+w^6+w^5+w^4+w^3+w^2+w+8)*3");
        chop(deep, 6 * 8, 2, "w^(w^7+w^6+w^5+w^4+w^3+w^2+12)");
        chop(deep, 0, 2, "w^(w^6*4+w^5+w^4+w^3+w^2+w+9)");
        chop(deep, 64, 2, Stand.ARGUMENT);
        chop("w^(w^(w+1))", 64, 2, "w^(w^w*3)");
        Stand.sentence("up to an exponent 0");
        chop("7", 8, 5, "6");
        chop("7", 7 * 8, 5, "6");
        chop("7", Integer.MAX_VALUE - 7, 5, "6");
        chop("w", 64, 5, "6");
        chop("w", 7 * 64, 5, "6");
        chop(EIGHT_TERMS, Integer.MAX_VALUE, 0, "w^7+w^6+w^5+w^4+w^3+w^2+w+8");
    }

    /** The greatest ways have eleven digits, the last of them 0 or 1; behind it all are 0. */
    private static void chopDeepWay() {
        Stand.sentence("z that of y's term number way / 8 % 8, and so on");
        chop(nested(LEVELS_OF_A_WAY, "w+5"), 1 << 30, 2, nested(LEVELS_OF_A_WAY - 1, "w^(w+4)*3"));
        chop(nested(LEVELS_OF_A_WAY, "w+5"), 0, 2, nested(LEVELS_OF_A_WAY, "8"));
        chop(nested(LEVELS_OF_A_WAY, "w"), 1 << 30, 2, Stand.ARGUMENT);
        chop(nested(LEVELS_OF_A_WAY + 1, "w+5"), 0, 2, nested(LEVELS_OF_A_WAY + 1, "8"));
        chop(Bench.tower(20, 1).toString(), 0, 2, Bench.tower(19, 3).toString());
        chop(Bench.tower(20, 2).toString(), 0, 2, nested(19, "w*3"));
    }

    /** That ordinal on this level of the way: the first level is the hydra itself. */
    private static String nested(int level, String ordinal) {
        String text = ordinal;
        for (int i = 1; i < level; i++) {
            text = "w^(" + text + ")";
        }
        return text;
    }

    private static void chopHeads() {
        Stand.sentence("If y is 0: x is thinned by w^0");
        chop("5", 0, 1000, "4");
        chop("1", 0, 1000, "0");
        chop("w+1", 1, 1000, "w");
        Stand.sentence("the one before that is thinned by w^p, and gets the natural sum with w^p' (copies + 1)");
        chop("w", 0, 0, "1");
        chop("w", 0, 1, "2");
        chop("w", 0, 1000, "1001");
        chop("w*2+5", 0, 1000, "w+1006");
        chop("w^2+w*4", 0, 2, "w*7");
        chop("w^2+w*4", 1, 2, "w^2+w*3+3");
        Stand.sentence("and each one before it likewise, with w^ of what the one behind it became, once");
        chop("w^(w*2)", 0, 1000, "w^(w+1001)");
        chop("w^(w*2)*2", 0, 2, "w^(w*2)+w^(w+3)");
        chop("w^(w*2)+w^(w+3)*5", 0, 2, "w^(w+3)*6");
        chop("w^(w^w)*2+w^(w^3)", 0, 2, "w^(w^w)+w^(w^3)*2");
    }

    private static void value(String a, int n, int want) {
        Stand.with(a).answers(want, "value", 0, n);
    }

    private static void value() {
        Stand.sentence("of all terms w^e c (0 to the power of 0 is 1)");
        value("0", 0, 0);
        value("5", 0, 5);
        value("w", 0, 0);
        value("w^w", 0, 1);
        value("w^w*4+w*3+2", 0, 6);
        value("w^(w+1)", 0, 0);
        value("w^w*4+w*3+2", 1, 9);
        value("w^w*4+w*3+2", 2, 24);
    }

    private static void fast(String a, int n, int fuel, int want) {
        Stand.with(a).answers(want, "fast", 0, n, fuel);
    }

    private static void fast() {
        Stand.sentence("At first the ordinal is there for one time, and v is n .. to APPLY 0: v grows by 1");
        fast("0", 0, 1, 1);
        fast("0", 7, 1, 8);
        Stand.sentence("to apply a successor: the one before it comes onto the pile for v times (if v is not 0)");
        fast("1", 0, 1, 0);
        fast("w+1", 0, 1, 0);
        fast("1", 1, 2, 2);
        fast("1", 7, 8, 14);
        fast("2", 3, 25, 24);
        Stand.sentence("to apply a limit: its member v comes for one time");
        fast("w", 0, 2, 1);
        fast("w^2", 0, 2, 1);
        fast("w", 1, 3, 2);
        fast("w", 2, 10, 8);
        fast("w*2", 0, 3, 1);
        Stand.sentence("the top is to be applied one time less (and goes, when that was the last)");
        fast("1999", 1, 2000, 2);
    }
}

import java.util.List;

/** For each promise, ordinary inputs that were worked out by hand; the edges have tests of their own. */
public final class PromiseTest {
    public static void main(String[] args) {
        newObjects();
        finite();
        raise();
        sums();
        products();
        powersOfNumbers();
        powersOfInfinite();
        naturalOnes();
        differences();
        quotients();
        members();
        steps();
        sequence();
        chops();
        starts();
        compares();
        kindsAndSizes();
        writings();
        values();
        fastOnes();
        records();
        Bench.finish();
    }

    private static void newObjects() {
        Stand.sentence("Promise 1");
        OrdinalDesk used = new OrdinalDesk();
        OrdinalDesk other = new OrdinalDesk();
        used.finite(5, 3);
        used.record(3);
        Stand.due("another object's slot", other.size(3), 0);
        Stand.due("another object's records", other.wipe(), 0);
        Stand.due("NONE", OrdinalDesk.NONE, -1);
    }

    private static void finite() {
        Stand.sentence("Promise 2");
        Stand.with("w").makes(0, "2", "finite", 2, 0);
        Stand.with("w").makes(5, "999999", "finite", 999999, 5);
    }

    private static void raise() {
        Stand.sentence("Promise 3");
        Stand.with("1").makes(3, "w", "raise", 0, 1, 3);
        Stand.with("1").makes(3, "w*3", "raise", 0, 3, 3);
        Stand.with("w+5").makes(3, "w^(w+5)*100", "raise", 0, 100, 3);
        Stand.with("w^w*2+3").makes(3, "w^(w^w*2+3)*2", "raise", 0, 2, 3);
    }

    private static void op(int kind, String a, String b, String want) {
        Stand.with(a, b).makes(3, want, "op", kind, 0, 1, 3);
    }

    private static void sums() {
        Stand.sentence("Promise 4, sum");
        op(0, "3", "4", "7");
        op(0, "1", "w", "w");
        op(0, "w", "1", "w+1");
        op(0, "w^3*2+w^2*4+w*5+6", "w^2*7+8", "w^3*2+w^2*11+8");
        op(0, "w^3*2+w*5+6", "w^2*7+8", "w^3*2+w^2*7+8");
        op(0, "w^3*2+w*5", "w^4+w", "w^4+w");
        op(0, "w^(w+1)+w^w+w^9", "w^w*2", "w^(w+1)+w^w*3");
    }

    private static void products() {
        Stand.sentence("Promise 4, product");
        op(1, "6", "7", "42");
        op(1, "2", "w", "w");
        op(1, "w", "2", "w*2");
        op(1, "w*3+5", "2", "w*6+5");
        op(1, "w*3+5", "w", "w^2");
        op(1, "w*3+5", "w^2*7+w*2+4", "w^3*7+w^2*2+w*12+5");
        op(1, "5", "w*3+2", "w*3+10");
        op(1, "w^w+1", "w^(w*2)+w", "w^(w*3)+w^(w+1)");
        op(1, "w^w", "w^(w^2)", "w^(w^2)");
        op(1, "w^(w^w)", "w^9+w^8+w^7", "w^(w^w+9)+w^(w^w+8)+w^(w^w+7)");
    }

    private static void powersOfNumbers() {
        Stand.sentence("Promise 4, power of a number");
        op(2, "3", "4", "81");
        op(2, "2", "w+3", "w*8");
        op(2, "3", "w^2*2+w*5+2", "w^(w*2+5)*9");
        op(2, "9", "w^w*3+w^7", "w^(w^w*3+w^6)");
        op(2, "5", "w^(w+1)", "w^(w^(w+1))");
    }

    private static void powersOfInfinite() {
        Stand.sentence("Promise 4, power of an infinite one");
        op(2, "w", "2", "w^2");
        op(2, "w+1", "3", "w^3+w^2+w+1");
        op(2, "w*2+3", "2", "w^2*2+w*6+3");
        op(2, "w^2*3+5", "w", "w^w");
        op(2, "w^2*3+5", "w*2+1", "w^(w*2+2)*3+w^(w*2)*5");
        op(2, "w^w", "w^w+w", "w^(w^w+w^2)");
        op(2, "w^(w+1)*2", "w^3+2", "w^(w^4+w*2+1)*2");
    }

    private static void naturalOnes() {
        Stand.sentence("Promise 4, natural sum and product");
        op(3, "1", "w", "w+1");
        op(3, "w^3+w*2+1", "w^2*4+w*3+5", "w^3+w^2*4+w*5+6");
        op(4, "6", "7", "42");
        op(4, "2", "w", "w*2");
        op(4, "w+1", "w+1", "w^2+w*2+1");
        op(4, "w^w*2+w", "w^(w+1)+3", "w^(w*2+1)*2+w^(w+2)+w^w*6+w*3");
        op(4, "w^(w+3)", "w^(w^2+w*2)", "w^(w^2+w*3+3)");
        op(4, "w^2+w+1", "w^12+w^9+w^6", "w^14+w^13+w^12+w^11+w^10+w^9+w^8+w^7+w^6");
    }

    private static void differences() {
        Stand.sentence("Promise 4, difference");
        op(5, "9", "4", "5");
        op(5, "w*5+2", "w*3+7", "w*2+2");
        op(5, "w^3+w^2*4+w+2", "w^3+w^2*4", "w+2");
        op(5, "w^3+w^2*4+w+2", "w^3+w^2", "w^2*3+w+2");
        op(5, "w^3+w^2*4+w+2", "w^3+w*8+1", "w^2*4+w+2");
        op(5, "w^w+w", "w^5+w", "w^w+w");
    }

    private static void divide(String a, String b, String quotient, String remainder) {
        op(6, a, b, quotient);
        op(7, a, b, remainder);
    }

    private static void quotients() {
        Stand.sentence("Promise 4, quotient and remainder");
        divide("17", "5", "3", "2");
        divide("w", "3", "w", "0");
        divide("w+7", "3", "w+2", "1");
        divide("w^2*3+w*5+7", "w", "w*3+5", "7");
        divide("w^2*3+w*5+7", "w*2", "w*3+2", "w+7");
        divide("w*7+4", "w*3+5", "2", "w+4");
        divide("w^(w*2)*4+w^(w+1)+w^w*2+w", "w^w", "w^w*4+w+2", "w");
        divide("w^(w^2)+w^(w+3)*2+w^w", "w^w*2+w", "w^(w^2)+w^3*2", "w^w");
        divide("w^w+w^3", "w^w+w^2", "1", "w^3");
        divide("w^w*2+w^2", "w^w+w^3", "1", "w^w+w^2");
    }

    private static void member(String a, int n, String want) {
        Stand.with(a).makes(3, want, "member", 0, n, 3);
    }

    private static void members() {
        Stand.sentence("Promise 5");
        member("w*3", 5, "w*2+5");
        member("w^2", 4, "w*4");
        member("w^3+w^2", 4, "w^3+w*4");
        member("w^w*2", 3, "w^w+w^3");
        member("w^(w*2)", 3, "w^(w+3)");
        member("w^(w+1)*2", 3, "w^(w+1)+w^w*3");
        member("w^(w^w)", 2, "w^(w^2)");
        member("w^(w^w+w^2*3)*4", 6, "w^(w^w+w^2*3)*3+w^(w^w+w^2*2+w*6)");
    }

    private static void step(String a, int base, String want) {
        Stand.with(a).makes(3, want, "step", 0, base, 3);
    }

    private static void steps() {
        Stand.sentence("Promise 6");
        step("7", 2, "6");
        step("w*2", 5, "w+4");
        step("w^2", 3, "w*2+2");
        step("w^3*2+w^2", 10, "w^3*2+w*9+9");
        step("w^w", 3, "w^2*2+w*2+2");
        step("w^(w+1)", 2, "w^w+w+1");
        step("w^(w^w)", 2, "w^(w+1)+w^w+w+1");
    }

    /** The falling numbers whose base grows: from 3 in base 2 down to 0. */
    private static void sequence() {
        OrdinalDesk desk = new OrdinalDesk();
        desk.start(3, 2, 0);
        int[] values = {3, 3, 2, 1, 0};
        for (int i = 0; i < values.length; i++) {
            desk.step(0, i + 3, 0);
            Stand.due("sequence from 3", desk.value(0, i + 3), values[i]);
        }
    }

    private static void chop(String a, int way, int copies, String want) {
        Stand.with(a).makes(3, want, "chop", 0, way, copies, 3);
    }

    private static void chops() {
        Stand.sentence("Promise 7");
        chop("7", 0, 5, "6");
        chop("w+3", 1, 5, "w+2");
        chop("w*3", 0, 4, "w*2+5");
        chop("w^2", 0, 2, "w*3");
        chop("w^w", 0, 2, "w^3");
        chop("w^(w*2)", 0, 2, "w^(w+3)");
        chop("w^(w+4)*2", 0, 2, "w^(w+4)+w^7");
        chop("w^(w+4)*2", 8, 2, "w^(w+4)+w^(w+3)*3");
        chop("w^(w^w)", 0, 1, "w^(w^2)");
        chop("w^(w^w+w^2)+w^w", 8, 1, "w^(w^w+w*2)+w^w");
        chop("w^(w^w+w^2)+w^w", 1, 1, "w^(w^w+w^2)+w^2");
        chop("w^(w^w+w^2)+w^w", 0, 1, "w^(w^2*2)+w^w");
    }

    private static void start(int n, int base, String want) {
        Stand.with().makes(3, want, "start", n, base, 3);
    }

    private static void starts() {
        Stand.sentence("Promise 8");
        start(5, 2, "w^w+1");
        start(266, 2, "w^(w^(w+1))+w^(w+1)+w");
        start(65536, 2, "w^(w^(w^w))");
        start(80, 3, "w^w*2+w^2*2+w*2+2");
        start(1000, 10, "w^3");
        start(999999999, 9, "w^w*2+w^8*5+w^7*2+w^5*6+w^3*7+w^2");
        start(536870912, 2, "w^(w^(w^w)+w^(w+1)+w^w+1)");
    }

    private static void compares() {
        Stand.sentence("Promise 9");
        String[] rising = {"0", "1", "2", "1000000", "w", "w+1", "w+2", "w*2", "w*2+1", "w^2",
            "w^2+1", "w^2+w", "w^2*2", "w^3", "w^1000000", "w^w", "w^w+w^9", "w^w*2", "w^(w+1)",
            "w^(w*2)", "w^(w^2)", "w^(w^w)", "w^(w^w+1)", "w^(w^(w^w))"};
        for (int i = 0; i < rising.length; i++) {
            for (int j = 0; j < rising.length; j++) {
                Stand.with(rising[i], rising[j]).answers(Integer.compare(i, j), "compare", 0, 1);
            }
        }
    }

    private static void kindsAndSizes() {
        kindAndSize("w*5", 2, 2);
        kindAndSize("w+1", 1, 3);
        kindAndSize("w^w", 2, 3);
        kindAndSize("w^w+w*2+3", 1, 6);
        kindAndSize("w^(w+1)", 2, 4);
        kindAndSize("w^(w^w+w+2)*7+w^(w+1)", 2, 11);
    }

    private static void kindAndSize(String text, int kind, int size) {
        Stand.sentence("Promise 10");
        Stand.with(text).answers(kind, "kind", 0);
        Stand.sentence("Promise 11");
        Stand.with(text).answers(size, "size", 0);
    }

    private static void writings() {
        Stand.sentence("Promise 12");
        writing("7", 1, 0, 7);
        writing("w", 1, 1, 0, 1, 0, 1);
        writing("w^2*3+w*5+7", 1, 1, 0, 2, 0, 3, 1, 1, 0, 1, 0, 5, 1, 0, 7);
        writing("w^(w*4+1)*9", 1, 1, 1, 0, 1, 0, 4, 1, 0, 1, 0, 9);
    }

    private static void writing(String text, int... want) {
        for (int i = 0; i < want.length; i++) {
            Stand.with(text).answers(want[i], "at", 0, i);
        }
        Stand.with(text).answers(-1, "at", 0, want.length);
    }

    private static void value(String text, int n, int want) {
        Stand.with(text).answers(want, "value", 0, n);
    }

    private static void values() {
        Stand.sentence("Promise 13");
        value("w", 1000, 1000);
        value("w^(w^w)", 0, 0);
        value("w^(w^w)*5+w^w*3+w*7+9", 0, 12);
        value("w^(w^w)*5+w^w*3+w*7+9", 1, 24);
        value("w^(w^w)", 2, 16);
        value("w^(w^(w^w))", 2, 65536);
        value("w^(w^(w^(w^w)))", 2, -1);
        value("w^2*999+w*999+999", 1000, 999999999);
    }

    private static void fast(String text, int n, int fuel, int want) {
        Stand.with(text).answers(want, "fast", 0, n, fuel);
    }

    private static void fastOnes() {
        Stand.sentence("Promise 14");
        fast("0", 1000, 10, 1001);
        fast("1", 5, 100, 10);
        fast("1", 999, 2000, 1998);
        fast("2", 2, 100, 8);
        fast("3", 1, 100, 2);
        fast("3", 2, 2000, -1);
        fast("w", 2, 100, 8);
        fast("w*2", 0, 100, 1);
        fast("w^w", 0, 100, 0);
        fast("w^w", 1, 2000, 2);
        fast("w^(w^w)", 0, 100, 1);
    }

    private static void records() {
        Stand.sentence("Promise 15");
        Stand.with("w+1").recorded("w^w").records(2, List.of("w^w", "w+1"), "record", 0);
        Stand.sentence("Promise 16");
        Stand.with().recorded("w^w", "w+1", "w", "3").answers(-1, "rise");
        Stand.with().recorded("w^w", "w+1", "w*2", "3").answers(2, "rise");
        Stand.sentence("Promise 17");
        Stand.with("w^w").recorded("9", "8", "7").records(0, List.of("9", "w^w", "7"), "replace", 1, 0);
        Stand.sentence("Promise 18");
        Stand.with("w^w").recorded("9", "w+8", "7").makes(0, "w+8", "recall", 1, 0);
        Stand.sentence("Promise 19");
        Stand.with("w^w").recorded("9", "w+8", "7").records(3, List.of(), "wipe");
    }
}

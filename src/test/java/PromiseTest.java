/** For each promise: ordinary inputs, the edges that the document names, and wrong inputs. */
public final class PromiseTest {
    private static final String SLOT = "IndexOutOfBoundsException";
    private static final String ARGUMENT = "IllegalArgumentException";
    private static final String ROOM = "IllegalStateException";

    /** An ordinal of size 19, whose members but for the first one are of size 21. */
    private static final String LARGE = "w^(w^(7)+w^(6)+w^(5)+w^(4)+w^(3)+w^(2)+w+1)+w^(w)*2";

    public static void main(String[] args) {
        newObject();
        finite();
        raise();
        sums();
        products();
        powersOfNumbers();
        powersOfInfinite();
        naturalOnes();
        differences();
        quotients();
        wrongOperations();
        members();
        steps();
        chops();
        wrongChops();
        starts();
        compares();
        kindsAndSizes();
        writings();
        values();
        fastOnes();
        fastLimits();
        records();
        wrongRecords();
        Bench.finish();
    }

    private static void newObject() {
        Bench bench = new Bench();
        for (int slot = 0; slot < 8; slot++) {
            due("size of a new slot", bench.desk.size(slot), 0);
            due("kind of a new slot", bench.desk.kind(slot), 0);
            due("at of a new slot", bench.desk.at(slot, 0), -1);
        }
        due("rise of a new object", bench.desk.rise(), -1);
        due("wipe of a new object", bench.desk.wipe(), 0);
        due("recall of a new object", Bench.outcome(() -> recall(bench, 0, 0)), SLOT);
        due("NONE", OrdinalDesk.NONE, -1);
        Bench other = new Bench();
        bench.desk.finite(5, 3);
        bench.desk.record(3);
        due("another object's slot", other.desk.size(3), 0);
        due("another object's records", other.desk.wipe(), 0);
    }

    private static void finite() {
        Bench bench = new Bench();
        int[] numbers = {0, 1, 2, 999999, 1000000, 0};
        for (int n : numbers) {
            bench.desk.finite(n, 7);
            due("finite " + n, bench.read(7).toString(), Integer.toString(n));
        }
        bench.desk.finite(9, 2);
        due("finite -1", Bench.outcome(() -> finite(bench, -1, 2)), ARGUMENT);
        due("finite 1000001", Bench.outcome(() -> finite(bench, 1000001, 2)), ARGUMENT);
        due("finite of least", Bench.outcome(() -> finite(bench, Integer.MIN_VALUE, 2)), ARGUMENT);
        due("finite to 8", Bench.outcome(() -> finite(bench, 1, 8)), SLOT);
        due("finite to -1", Bench.outcome(() -> finite(bench, 1, -1)), SLOT);
        due("finite, all wrong", Bench.outcome(() -> finite(bench, -1, 8)), SLOT);
        due("slot after wrong finites", bench.read(2).toString(), "9");
    }

    private static void raise() {
        raised("0", 1, "1");
        raised("0", 1000000, "1000000");
        raised("1", 1, "w");
        raised("1", 3, "w*3");
        raised("w+5", 1000000, "w^(w+5)*1000000");
        raised("w^w*2+3", 2, "w^(w^(w)*2+3)*2");
        raised("0", 0, ARGUMENT);
        raised("0", -1, ARGUMENT);
        raised("w", 1000001, ARGUMENT);
        raised(Bench.tower(19, 4).toString(), 7, "w^(" + Bench.tower(19, 4) + ")*7");
        raised(Bench.tower(20, 4).toString(), 7, ROOM);
        raised(Bench.tower(20, 4).toString(), 0, ARGUMENT);
        Bench bench = new Bench();
        due("raise of slot 8", Bench.outcome(() -> raise(bench, 8, 1, 0)), SLOT);
        due("raise of slot -1", Bench.outcome(() -> raise(bench, -1, 1, 0)), SLOT);
        due("raise to 8", Bench.outcome(() -> raise(bench, 0, 1, 8)), SLOT);
        due("raise, all wrong", Bench.outcome(() -> raise(bench, 0, 0, 8)), SLOT);
        bench.desk.finite(1, 0);
        bench.desk.raise(0, 2, 0);
        due("raise in place", bench.read(0).toString(), "w*2");
    }

    private static void raised(String exponent, int coefficient, String want) {
        Bench bench = new Bench();
        bench.load(0, exponent);
        bench.load(3, "w+1");
        String outcome = Bench.outcome(() -> raise(bench, 0, coefficient, 3));
        String what = "raise of " + exponent + ", " + coefficient;
        dueResult(what, bench, outcome.equals("0") ? null : outcome, 3, want);
    }

    private static void sums() {
        op(0, "0", "0", "0");
        op(0, "w^w+3", "0", "w^(w)+3");
        op(0, "0", "w^w+3", "w^(w)+3");
        op(0, "3", "4", "7");
        op(0, "1", "w", "w");
        op(0, "w", "1", "w+1");
        op(0, "w^3*2+w^2*4+w*5+6", "w^2*7+8", "w^(3)*2+w^(2)*11+8");
        op(0, "w^3*2+w*5+6", "w^2*7+8", "w^(3)*2+w^(2)*7+8");
        op(0, "w^3*2+w*5", "w^4+w", "w^(4)+w");
        op(0, "w^(w+1)+w^w+w^9", "w^w*2", "w^(w+1)+w^(w)*3");
        op(0, "999999", "1", "1000000");
        op(0, "1000000", "1", ROOM);
        op(0, "w+1000000", "w", "w*2");
        op(0, "w^w*600000", "w^w*400001+5", ROOM);
        op(0, "w^w*600000", "w^w*400000+5", "w^(w)*1000000+5");
        op(0, Bench.tower(20, 1).toString(), "0", Bench.tower(20, 1).toString());
        op(0, Bench.tower(19, 1).toString(), "5", Bench.tower(19, 1) + "+5");
        op(0, Bench.tower(20, 1).toString(), "5", ROOM);
        op(0, Bench.tower(20, 1).toString(), Bench.tower(20, 1).toString(), Bench.tower(20, 1) + "*2");
        op(0, "w^10+w^9+w^8+w^7+w^6+w^5+w^4+w^3+w^2+w", Bench.tower(20, 1).toString(),
                Bench.tower(20, 1).toString());
    }

    private static void products() {
        op(1, "0", "w+1", "0");
        op(1, "w+1", "0", "0");
        op(1, "1", "w^w+w+3", "w^(w)+w+3");
        op(1, "w^w+w+3", "1", "w^(w)+w+3");
        op(1, "6", "7", "42");
        op(1, "2", "w", "w");
        op(1, "w", "2", "w*2");
        op(1, "w*3+5", "2", "w*6+5");
        op(1, "w*3+5", "w", "w^(2)");
        op(1, "w*3+5", "w^2*7+w*2+4", "w^(3)*7+w^(2)*2+w*12+5");
        op(1, "5", "w*3+2", "w*3+10");
        op(1, "w^w+1", "w^(w*2)+w", "w^(w*3)+w^(w+1)");
        op(1, "w^w", "w^(w^2)", "w^(w^(2))");
        op(1, "1000", "1000", "1000000");
        op(1, "1001", "1000", ROOM);
        op(1, "1000000", "1000000", ROOM);
        op(1, "w^1000000", "w", ROOM);
        op(1, "w^999999", "w", "w^(1000000)");
        op(1, "w*1000000", "w+1", "w^(2)+w*1000000");
        op(1, "w*1000000", "w+2", ROOM);
        op(1, Bench.tower(19, 1).toString(), "w", "w^(" + Bench.tower(18, 1) + "+1)");
        op(1, Bench.tower(20, 1).toString(), "w", ROOM);
        op(1, "w^(w^w)", "w^9+w^8+w^7+w^6",
                "w^(w^(w)+9)+w^(w^(w)+8)+w^(w^(w)+7)+w^(w^(w)+6)");
        op(1, "w^(w^w)", "w^9+w^8+w^7+w^6+1", ROOM);
    }

    private static void powersOfNumbers() {
        op(2, "0", "0", "1");
        op(2, "w^w", "0", "1");
        op(2, "1", "w^w+5", "1");
        op(2, "0", "5", "0");
        op(2, "0", "w", "0");
        op(2, "3", "4", "81");
        op(2, "7", "1", "7");
        op(2, "2", "w", "w");
        op(2, "2", "w+3", "w*8");
        op(2, "3", "w^2*2+w*5+2", "w^(w*2+5)*9");
        op(2, "9", "w^w*3+w^7", "w^(w^(w)*3+w^(6))");
        op(2, "5", "w^(w+1)", "w^(w^(w+1))");
        op(2, "10", "6", "1000000");
        op(2, "10", "7", ROOM);
        op(2, "2", "19", "524288");
        op(2, "2", "20", ROOM);
        op(2, "2", "1000000", ROOM);
        op(2, "1000000", "1000000", ROOM);
        op(2, "1000000", "w+1", "w*1000000");
        op(2, "1000000", "w+2", ROOM);
        op(2, "1", "1000000", "1");
        op(2, "2", Bench.tower(19, 1).toString(), "w^(" + Bench.tower(19, 1) + ")");
        op(2, "2", Bench.tower(20, 1).toString(), ROOM);
    }

    private static void powersOfInfinite() {
        op(2, "w", "1", "w");
        op(2, "w^w+3", "1", "w^(w)+3");
        op(2, "w", "2", "w^(2)");
        op(2, "w+1", "3", "w^(3)+w^(2)+w+1");
        op(2, "w*2+3", "2", "w^(2)*2+w*6+3");
        op(2, "w", "w", "w^(w)");
        op(2, "w^2*3+5", "w", "w^(w)");
        op(2, "w^2*3+5", "w*2+1", "w^(w*2+2)*3+w^(w*2)*5");
        op(2, "w^w", "w^w+w", "w^(w^(w)+w^(2))");
        op(2, "w^(w+1)*2", "w^3+2", "w^(w^(4)+w*2+1)*2");
        op(2, "w", "20", "w^(20)");
        op(2, "w*7", "20", "w^(20)*7");
        op(2, "w", "21", ROOM);
        op(2, "w", "w^2+20", "w^(w^(2)+20)");
        op(2, "w", "w^2+21", ROOM);
        op(2, "w", "1000000", ROOM);
        op(2, "w^50000", "20", "w^(1000000)");
        op(2, "w^50001", "20", ROOM);
        op(2, "w+1", "9", "w^(9)+w^(8)+w^(7)+w^(6)+w^(5)+w^(4)+w^(3)+w^(2)+w+1");
        op(2, "w+1", "10", ROOM);
        op(2, "w*1000000+1", "2", "w^(2)*1000000+w*1000000+1");
        op(2, "w+1000000", "2", "w^(2)+w*1000000+1000000");
        op(2, "w*1001+1000", "2", ROOM);
        op(2, "w", Bench.tower(18, 1).toString(), "w^(" + Bench.tower(18, 1) + ")");
        op(2, "w", Bench.tower(20, 1).toString(), ROOM);
    }

    private static void naturalOnes() {
        op(3, "0", "0", "0");
        op(3, "0", "w+1", "w+1");
        op(3, "w+1", "0", "w+1");
        op(3, "1", "w", "w+1");
        op(3, "w^3+w*2+1", "w^2*4+w*3+5", "w^(3)+w^(2)*4+w*5+6");
        op(3, "w^w*600000", "w^w*400000", "w^(w)*1000000");
        op(3, "w^w*600000", "w^w*400001", ROOM);
        op(3, "w^6+w^5+w^4+w^3+w^2", "w^11+w^10+w^9+w^8+w^7",
                "w^(11)+w^(10)+w^(9)+w^(8)+w^(7)+w^(6)+w^(5)+w^(4)+w^(3)+w^(2)");
        op(3, "w^6+w^5+w^4+w^3+w^2", "w^11+w^10+w^9+w^8+w^7+1", ROOM);
        op(4, "0", "w+1", "0");
        op(4, "w+1", "0", "0");
        op(4, "1", "w^w+2", "w^(w)+2");
        op(4, "6", "7", "42");
        op(4, "2", "w", "w*2");
        op(4, "w+1", "w+1", "w^(2)+w*2+1");
        op(4, "w^w*2+w", "w^(w+1)+3", "w^(w*2+1)*2+w^(w+2)+w^(w)*6+w*3");
        op(4, "w^(w+3)", "w^(w^2+w*2)", "w^(w^(2)+w*3+3)");
        op(4, "1000", "1000", "1000000");
        op(4, "1000", "1001", ROOM);
        op(4, "w*1000+500", "w*1000+500", "w^(2)*1000000+w*1000000+250000");
        op(4, "w*1000+501", "w*1000+500", ROOM);
        op(4, "w^600000", "w^400000", "w^(1000000)");
        op(4, "w^600000", "w^400001", ROOM);
        op(4, Bench.tower(19, 1).toString(), "w", "w^(" + Bench.tower(18, 1) + "+1)");
        op(4, Bench.tower(20, 1).toString(), "w", ROOM);
        op(4, "w^2+w+1", "w^12+w^9+w^6", "w^(14)+w^(13)+w^(12)+w^(11)+w^(10)+w^(9)+w^(8)+w^(7)+w^(6)");
        op(4, "w^2+w+1", "w^12+w^9+w^6+1", ROOM);
    }

    private static void differences() {
        op(5, "0", "0", "0");
        op(5, "w+1", "w+1", "0");
        op(5, "w+1", "0", "w+1");
        op(5, "9", "4", "5");
        op(5, "w", "1000000", "w");
        op(5, "w*5+2", "w*3+7", "w*2+2");
        op(5, "w^3+w^2*4+w+2", "w^3+w^2*4", "w+2");
        op(5, "w^3+w^2*4+w+2", "w^3+w^2", "w^(2)*3+w+2");
        op(5, "w^3+w^2*4+w+2", "w^3+w*8+1", "w^(2)*4+w+2");
        op(5, "w^w+w", "w^5+w", "w^(w)+w");
        op(5, "4", "9", ARGUMENT);
        op(5, "1000000", "w", ARGUMENT);
        op(5, "w*3+7", "w*3+8", ARGUMENT);
        op(5, "0", "1", ARGUMENT);
        op(5, Bench.tower(20, 2).toString(), "1", Bench.tower(20, 2).toString());
    }

    private static void quotients() {
        divide("0", "5", "0", "0");
        divide("17", "5", "3", "2");
        divide("15", "5", "3", "0");
        divide("4", "5", "0", "4");
        divide("1000000", "1", "1000000", "0");
        divide("w", "w+1", "0", "w");
        divide("w", "3", "w", "0");
        divide("w+7", "3", "w+2", "1");
        divide("w^2*3+w*5+7", "w", "w*3+5", "7");
        divide("w^2*3+w*5+7", "w*2", "w*3+2", "w+7");
        divide("w*6+5", "w*3+5", "2", "0");
        divide("w*6+4", "w*3+5", "1", "w*3+4");
        divide("w*6+9", "w*3+5", "2", "4");
        divide("w*7+4", "w*3+5", "2", "w+4");
        divide("w*3+4", "w*3+5", "0", "w*3+4");
        divide("w^(w*2)*4+w^(w+1)+w^w*2+w", "w^w", "w^(w)*4+w+2", "w");
        divide("w^(w^2)+w^(w+3)*2+w^w", "w^w*2+w", "w^(w^(2))+w^(3)*2", "w^(w)");
        divide("w^w+w^3", "w^w+w^2", "1", "w^(3)");
        divide("w^w*2+w^2", "w^w+w^3", "1", "w^(w)+w^(2)");
        divide("w^5", "w^5", "1", "0");
        divide(Bench.tower(20, 1).toString(), "1", Bench.tower(20, 1).toString(), "0");
        op(6, "w", "0", ARGUMENT);
        op(7, "w", "0", ARGUMENT);
        op(6, "0", "0", ARGUMENT);
        op(7, "0", "0", ARGUMENT);
    }

    private static void divide(String a, String b, String quotient, String remainder) {
        op(6, a, b, quotient);
        op(7, a, b, remainder);
    }

    private static void wrongOperations() {
        Bench bench = new Bench();
        bench.load(0, "w+3");
        due("op kind -1", Bench.outcome(() -> bench.desk.op(-1, 0, 0, 0)), ARGUMENT);
        due("op kind 8", Bench.outcome(() -> bench.desk.op(8, 0, 0, 0)), ARGUMENT);
        for (int kind = -1; kind <= 8; kind++) {
            int k = kind;
            due("op of slot -1", Bench.outcome(() -> bench.desk.op(k, -1, 0, 0)), SLOT);
            due("op of slot 8", Bench.outcome(() -> bench.desk.op(k, 8, 0, 0)), SLOT);
            due("op with slot -1", Bench.outcome(() -> bench.desk.op(k, 0, -1, 0)), SLOT);
            due("op with slot 8", Bench.outcome(() -> bench.desk.op(k, 0, 8, 0)), SLOT);
            due("op to -1", Bench.outcome(() -> bench.desk.op(k, 0, 0, -1)), SLOT);
            due("op to 8", Bench.outcome(() -> bench.desk.op(k, 0, 0, 8)), SLOT);
        }
        due("slot after wrong ops", bench.read(0).toString(), "w+3");
        inPlace(0, "w*2+3");
        inPlace(1, "w^(2)+w*3+3");
        inPlace(2, "w^(w+3)+w^(w+2)*3+w^(w+1)*3+w^(w)*3");
        inPlace(3, "w*2+6");
        inPlace(4, "w^(2)+w*6+9");
        inPlace(5, "0");
        inPlace(6, "1");
        inPlace(7, "0");
    }

    private static void inPlace(int kind, String want) {
        Bench bench = new Bench();
        bench.load(0, "w+3");
        due("size of op " + kind + " in place", bench.desk.op(kind, 0, 0, 0), Tree.of(want).size());
        due("op " + kind + " in place", bench.read(0).toString(), want);
    }

    private static void members() {
        member("w", 0, "0");
        member("w", 1, "1");
        member("w", 1000000, "1000000");
        member("w*3", 5, "w*2+5");
        member("w*3", 0, "w*2");
        member("w^2", 4, "w*4");
        member("w^3+w^2", 4, "w^(3)+w*4");
        member("w^w", 0, "1");
        member("w^w", 3, "w^(3)");
        member("w^w*2", 3, "w^(w)+w^(3)");
        member("w^(w*2)", 3, "w^(w+3)");
        member("w^(w+1)*2", 3, "w^(w+1)+w^(w)*3");
        member("w^(w^w)", 2, "w^(w^(2))");
        member("w^(w^w)", 0, "w");
        member("w^(w^w+w^2*3)*4", 6, "w^(w^(w)+w^(2)*3)*3+w^(w^(w)+w^(2)*2+w*6)");
        member("0", 0, ARGUMENT);
        member("5", 0, ARGUMENT);
        member("w+1", 1, ARGUMENT);
        member("w", -1, ARGUMENT);
        member("w", 1000001, ARGUMENT);
        member(LARGE, 1, ROOM);
        member(LARGE, 0, LARGE.replace("*2", "+1"));
        member(LARGE, 1000001, ARGUMENT);
        member(Bench.tower(20, 1).toString(), 9, Bench.tower(19, 9).toString());
        Bench bench = new Bench();
        bench.load(0, "w");
        due("member of slot 8", Bench.outcome(() -> bench.desk.member(8, 0, 0)), SLOT);
        due("member of slot -1", Bench.outcome(() -> bench.desk.member(-1, 0, 0)), SLOT);
        due("member to 8", Bench.outcome(() -> bench.desk.member(0, 0, 8)), SLOT);
        due("member, all wrong", Bench.outcome(() -> bench.desk.member(1, -1, 8)), SLOT);
        due("member in place", bench.desk.member(0, 7, 0) + " " + bench.read(0), "1 7");
    }

    private static void member(String a, int n, String want) {
        one("member " + n + " of " + a, a, want, bench -> bench.desk.member(0, n, 3));
    }

    private static void steps() {
        step("1", 2, "0");
        step("7", 2, "6");
        step("w", 2, "1");
        step("w", 1000000, "999999");
        step("w+1", 5, "w");
        step("w*2", 5, "w+4");
        step("w^2", 3, "w*2+2");
        step("w^3*2+w^2", 10, "w^(3)*2+w*9+9");
        step("w^w", 3, "w^(2)*2+w*2+2");
        step("w^w", 2, "w+1");
        step("w^(w+1)", 2, "w^(w)+w+1");
        step("w^(w^w)", 2, "w^(w+1)+w^(w)+w+1");
        step("w^w", 10, "w^(9)*9+w^(8)*9+w^(7)*9+w^(6)*9+w^(5)*9+w^(4)*9+w^(3)*9+w^(2)*9+w*9+9");
        step("w^w", 11, ROOM);
        step("w^w", 1000000, ROOM);
        step(LARGE, 2, ROOM);
        step(LARGE + "+1", 2, LARGE);
        step("0", 2, ARGUMENT);
        step("w", 1, ARGUMENT);
        step("w", 0, ARGUMENT);
        step("w", -1, ARGUMENT);
        step("w", 1000001, ARGUMENT);
        step(LARGE, 1, ARGUMENT);
        Bench bench = new Bench();
        bench.load(0, "w");
        due("step of slot 8", Bench.outcome(() -> bench.desk.step(8, 2, 0)), SLOT);
        due("step of slot -1", Bench.outcome(() -> bench.desk.step(-1, 2, 0)), SLOT);
        due("step to 8", Bench.outcome(() -> bench.desk.step(0, 2, 8)), SLOT);
        due("step, all wrong", Bench.outcome(() -> bench.desk.step(1, 1, 8)), SLOT);
        due("step in place", bench.desk.step(0, 7, 0) + " " + bench.read(0), "1 6");
        sequence();
    }

    private static void step(String a, int base, String want) {
        one("step of " + a + " at " + base, a, want, bench -> bench.desk.step(0, base, 3));
    }

    /** The falling numbers whose base grows: from 3 in base 2 down to 0. */
    private static void sequence() {
        Bench bench = new Bench();
        bench.desk.start(3, 2, 0);
        int[] values = {3, 3, 2, 1, 0};
        for (int i = 0; i < values.length; i++) {
            bench.desk.step(0, i + 3, 0);
            due("sequence from 3", bench.desk.value(0, i + 3), values[i]);
        }
    }

    private static void chops() {
        chop("1", 0, 5, "0");
        chop("7", 0, 5, "6");
        chop("w+3", 1, 5, "w+2");
        chop("w+1", 1, 5, "w");
        chop("w", 0, 0, "1");
        chop("w", 0, 4, "5");
        chop("w*3", 0, 4, "w*2+5");
        chop("w*3+6", 0, 1000, "w*2+1007");
        chop("w^2", 0, 2, "w*3");
        chop("w^2+w*4", 0, 2, "w*7");
        chop("w^2+w*4", 1, 2, "w^(2)+w*3+3");
        chop("w^w", 0, 2, "w^(3)");
        chop("w^(w*2)", 0, 2, "w^(w+3)");
        chop("w^(w*2)*2", 0, 2, "w^(w*2)+w^(w+3)");
        chop("w^(w+4)*2", 0, 2, "w^(w+4)+w^(7)");
        chop("w^(w+4)*2", 8, 2, "w^(w+4)+w^(w+3)*3");
        chop("w^(w^w)", 0, 1, "w^(w^(2))");
        chop("w^(w^w+w^2)+w^w", 8, 1, "w^(w^(w)+w*2)+w^(w)");
        chop("w^(w^w+w^2)+w^w", 1, 1, "w^(w^(w)+w^(2))+w^(2)");
        chop("w^(w^w+w^2)+w^w", 0, 1, "w^(w^(2)*2)+w^(w)");
        chop("w^7+w^6+w^5+w^4+w^3+w^2+w+9", 7, 1, "w^(7)+w^(6)+w^(5)+w^(4)+w^(3)+w^(2)+w+8");
        chop("w+1000000", 1, 1000, "w+999999");
        chop("w+999000", 0, 999, "1000000");
        chop("w+999000", 0, 1000, ROOM);
        chop(LARGE, 1, 0, ROOM);
        chop(Bench.tower(20, 2).toString(), 0, 0, Bench.tower(20, 1).toString());
        chop(Bench.tower(20, 1).toString(), 0, 8, Bench.tower(19, 9).toString());
        // Digits of the way behind the head are not looked at.
        chop("7", 7 * 8, 5, "6");
        chop("w", 7 * 64, 5, "6");
    }

    private static void chop(String a, int way, int copies, String want) {
        one("chop of " + a + ", " + way + ", " + copies, a, want,
                bench -> bench.desk.chop(0, way, copies, 3));
    }

    private static void wrongChops() {
        chop("0", 0, 0, ARGUMENT);
        chop("w", -1, 0, ARGUMENT);
        chop("w", Integer.MIN_VALUE, 0, ARGUMENT);
        chop("w", 1, 0, ARGUMENT);
        chop("w+1", 2, 0, ARGUMENT);
        chop("w", 8, 0, ARGUMENT);
        chop("w^w", 64, 0, ARGUMENT);
        chop("w^(w+1)", 16, 0, ARGUMENT);
        chop("w", 0, -1, ARGUMENT);
        chop("w", 0, 1001, ARGUMENT);
        chop("5", 0, 1001, ARGUMENT);
        chop(LARGE, 1, 1001, ARGUMENT);
        Bench bench = new Bench();
        bench.load(0, "w");
        due("chop of slot 8", Bench.outcome(() -> bench.desk.chop(8, 0, 0, 0)), SLOT);
        due("chop of slot -1", Bench.outcome(() -> bench.desk.chop(-1, 0, 0, 0)), SLOT);
        due("chop to 8", Bench.outcome(() -> bench.desk.chop(0, 0, 0, 8)), SLOT);
        due("chop, all wrong", Bench.outcome(() -> bench.desk.chop(0, -1, -1, 8)), SLOT);
        due("chop in place", bench.desk.chop(0, 0, 7, 0) + " " + bench.read(0), "1 8");
    }

    private static void starts() {
        start(0, 2, "0");
        start(0, 1000, "0");
        start(1, 2, "1");
        start(2, 2, "w");
        start(4, 2, "w^(w)");
        start(5, 2, "w^(w)+1");
        start(266, 2, "w^(w^(w+1))+w^(w+1)+w");
        start(65536, 2, "w^(w^(w^(w)))");
        start(7625597, 3, ROOM);
        start(27, 3, "w^(w)");
        start(80, 3, "w^(w)*2+w^(2)*2+w*2+2");
        start(1000, 10, "w^(3)");
        start(1000000000, 10, "w^(9)");
        start(1000000000, 1000, "w^(3)");
        start(999999999, 1000, "w^(2)*999+w*999+999");
        start(999999999, 10,
                "w^(8)*9+w^(7)*9+w^(6)*9+w^(5)*9+w^(4)*9+w^(3)*9+w^(2)*9+w*9+9");
        start(999999999, 9, "w^(w)*2+w^(8)*5+w^(7)*2+w^(5)*6+w^(3)*7+w^(2)");
        start(536870912, 2, "w^(w^(w^(w))+w^(w+1)+w^(w)+1)");
        start(1000000000, 2, ROOM);
        start(-1, 2, ARGUMENT);
        start(1000000001, 2, ARGUMENT);
        start(5, 1, ARGUMENT);
        start(5, 0, ARGUMENT);
        start(5, -2, ARGUMENT);
        start(5, 1001, ARGUMENT);
        Bench bench = new Bench();
        due("start to 8", Bench.outcome(() -> bench.desk.start(1, 2, 8)), SLOT);
        due("start to -1", Bench.outcome(() -> bench.desk.start(1, 2, -1)), SLOT);
        due("start, all wrong", Bench.outcome(() -> bench.desk.start(-1, 1, 8)), SLOT);
    }

    private static void start(int n, int base, String want) {
        one("start of " + n + " in " + base, "0", want, bench -> bench.desk.start(n, base, 3));
    }

    private static void compares() {
        String[] rising = {"0", "1", "2", "1000000", "w", "w+1", "w+2", "w*2", "w*2+1", "w^2",
            "w^2+1", "w^2+w", "w^2*2", "w^3", "w^1000000", "w^w", "w^w+w^9", "w^w*2", "w^(w+1)",
            "w^(w*2)", "w^(w^2)", "w^(w^w)", "w^(w^w+1)", "w^(w^(w^w))"};
        for (int i = 0; i < rising.length; i++) {
            for (int j = 0; j < rising.length; j++) {
                Bench bench = new Bench();
                bench.load(0, rising[i]);
                bench.load(1, rising[j]);
                due("compare " + rising[i] + ", " + rising[j], bench.desk.compare(0, 1),
                        Integer.compare(i, j));
            }
        }
        Bench bench = new Bench();
        due("compare of slot 8", Bench.outcome(() -> bench.desk.compare(8, 0)), SLOT);
        due("compare of slot -1", Bench.outcome(() -> bench.desk.compare(-1, 0)), SLOT);
        due("compare with slot 8", Bench.outcome(() -> bench.desk.compare(0, 8)), SLOT);
        due("compare with slot -1", Bench.outcome(() -> bench.desk.compare(0, -1)), SLOT);
    }

    private static void kindsAndSizes() {
        kindAndSize("0", 0, 0);
        kindAndSize("1", 1, 1);
        kindAndSize("1000000", 1, 1);
        kindAndSize("w", 2, 2);
        kindAndSize("w*5", 2, 2);
        kindAndSize("w+1", 1, 3);
        kindAndSize("w^w", 2, 3);
        kindAndSize("w^w+w*2+3", 1, 6);
        kindAndSize("w^(w+1)", 2, 4);
        kindAndSize("w^(w^w+w+2)*7+w^(w+1)", 2, 11);
        kindAndSize(LARGE, 2, 19);
        kindAndSize(LARGE + "+1", 1, 20);
        kindAndSize(Bench.tower(20, 3).toString(), 2, 20);
        Bench bench = new Bench();
        due("kind of slot 8", Bench.outcome(() -> bench.desk.kind(8)), SLOT);
        due("kind of slot -1", Bench.outcome(() -> bench.desk.kind(-1)), SLOT);
        due("size of slot 8", Bench.outcome(() -> bench.desk.size(8)), SLOT);
        due("size of slot -1", Bench.outcome(() -> bench.desk.size(-1)), SLOT);
    }

    private static void kindAndSize(String text, int kind, int size) {
        Bench bench = new Bench();
        bench.load(0, text);
        due("kind of " + text, bench.desk.kind(0), kind);
        due("size of " + text, bench.desk.size(0), size);
    }

    private static void writings() {
        writing("0", new int[] {});
        writing("7", new int[] {1, 0, 7});
        writing("w", new int[] {1, 1, 0, 1, 0, 1});
        writing("w^2*3+w*5+7", new int[] {1, 1, 0, 2, 0, 3, 1, 1, 0, 1, 0, 5, 1, 0, 7});
        writing("w^(w*4+1)*9", new int[] {1, 1, 1, 0, 1, 0, 4, 1, 0, 1, 0, 9});
        Bench bench = new Bench();
        due("at of slot 8", Bench.outcome(() -> bench.desk.at(8, 0)), SLOT);
        due("at of slot -1", Bench.outcome(() -> bench.desk.at(-1, -1)), SLOT);
        bench.load(0, Bench.tower(20, 6));
        due("at the last", bench.desk.at(0, 59), 1);
        due("at behind the last", bench.desk.at(0, 60), -1);
        due("at the number", bench.desk.at(0, 21), 6);
    }

    private static void writing(String text, int[] want) {
        Bench bench = new Bench();
        bench.load(0, text);
        for (int i = 0; i < want.length; i++) {
            due("at " + i + " of " + text, bench.desk.at(0, i), want[i]);
        }
        int[] outside = {-1, Integer.MIN_VALUE, want.length, want.length + 1, Integer.MAX_VALUE};
        for (int i : outside) {
            due("at " + i + " of " + text, bench.desk.at(0, i), -1);
        }
    }

    private static void values() {
        value("0", 0, "0");
        value("0", 1000, "0");
        value("1000000", 0, "1000000");
        value("w", 0, "0");
        value("w", 1000, "1000");
        value("w^w", 0, "1");
        value("w^(w^w)", 0, "0");
        value("w^(w^w)*5+w^w*3+w*7+9", 0, "12");
        value("w^(w^w)*5+w^w*3+w*7+9", 1, "24");
        value("w^(w^w)", 2, "16");
        value("w^(w^(w^w))", 2, "65536");
        value("w^(w^(w^(w^w)))", 2, "-1");
        value(Bench.tower(19, 5).toString(), 0, "1");
        value(Bench.tower(20, 5).toString(), 0, "0");
        value(Bench.tower(20, 5).toString(), 1, "1");
        value(Bench.tower(20, 5).toString(), 2, "-1");
        value("w^1000000*1000000", 1, "1000000");
        value("w^1000000*1000000", 2, "-1");
        value("w^1000000", 0, "0");
        value("w^3*999999+w^2*9+w*9+9", 10, "999999999");
        value("w^3*999999+w^2*9+w*9+10", 10, "1000000000");
        value("w^3*999999+w^2*9+w*9+11", 10, "-1");
        value("w^3", 1000, "1000000000");
        value("w^3+1", 1000, "-1");
        value("w^2*999+w*999+999", 1000, "999999999");
        value("w*1000000", 1000, "1000000000");
        value("w*1000000+1", 1000, "-1");
        value("w^29", 2, "536870912");
        value("w^30", 2, "-1");
        value("w", -1, ARGUMENT);
        value("w", 1001, ARGUMENT);
        Bench bench = new Bench();
        due("value of slot 8", Bench.outcome(() -> bench.desk.value(8, 0)), SLOT);
        due("value of slot -1", Bench.outcome(() -> bench.desk.value(-1, -1)), SLOT);
    }

    private static void value(String text, int n, String want) {
        Bench bench = new Bench();
        bench.load(0, text);
        due("value of " + text + " at " + n, Bench.outcome(() -> bench.desk.value(0, n)), want);
    }

    private static void fastOnes() {
        fast("0", 0, 1, "1");
        fast("0", 1000, 1, "1001");
        fast("0", 1000, 0, "-1");
        fast("1", 0, 1, "0");
        fast("1", 0, 0, "-1");
        fast("1", 5, 6, "10");
        fast("1", 5, 5, "-1");
        fast("1", 999, 1000, "1998");
        fast("2", 0, 1, "0");
        fast("2", 1, 3, "2");
        fast("2", 1, 2, "-1");
        fast("2", 2, 9, "8");
        fast("2", 2, 8, "-1");
        fast("3", 1, 4, "2");
        fast("3", 2, 2000, "-1");
        fast("1000000", 0, 1, "0");
        fast("1000", 1, 1001, "2");
        fast("1000", 1, 1000, "-1");
        fast("w", 0, 2, "1");
        fast("w", 0, 1, "-1");
        fast("w", 1, 3, "2");
        fast("w", 2, 10, "8");
        fast("w", 2, 9, "-1");
        fast("w+1", 0, 1, "0");
        fast("w+1", 1, 4, "2");
        fast("w+1", 1, 3, "-1");
        fast("w*2", 0, 3, "1");
        fast("w^w", 0, 2, "0");
        fast("w^w", 1, 2000, "2");
        fast("w^(w^w)", 0, 3, "1");
        fast("w", -1, 5, ARGUMENT);
        fast("w", 1001, 5, ARGUMENT);
        fast("w", 5, -1, ARGUMENT);
        fast("w", 5, 2001, ARGUMENT);
        fast(LARGE, 1001, 5, ARGUMENT);
        Bench bench = new Bench();
        due("fast of slot 8", Bench.outcome(() -> bench.desk.fast(8, 0, 0)), SLOT);
        due("fast of slot -1", Bench.outcome(() -> bench.desk.fast(-1, -1, -1)), SLOT);
    }

    /** Which comes first: no fuel, a pile too high, or no room for a member. */
    private static void fastLimits() {
        fast(LARGE, 2, 0, "-1");
        fast(LARGE, 2, 1, ROOM);
        fast(LARGE + "+1", 2, 1, "-1");
        fast(LARGE + "+1", 2, 2, ROOM);
        fast(LARGE + "+1", 0, 1, "0");
        fast(LARGE + "+11", 2, 2000, ROOM);
        // With 12 on the pile, of which the top stays, the member is made before it would be one more.
        fast(LARGE + "+12", 2, 2000, ROOM);
        fast(LARGE + "+12", 2, 12, "-1");
        fast(LARGE + "+13", 2, 2000, "-1");
        // Each is there for one time, and goes before the next one comes.
        fast(LARGE + "+13", 1, 2000, ROOM);
        fast(LARGE + "+1000", 1, 2000, ROOM);
        Bench bench = new Bench();
        bench.load(0, LARGE + "+2");
        bench.desk.record(0);
        due("fast", Bench.outcome(() -> bench.desk.fast(0, 2, 2000)), ROOM);
        bench.desk.recall(0, 1);
        due("slot after fast", bench.desk.compare(0, 1), 0);
        bench.load(1, "2");
        due("fast after one that threw", bench.desk.fast(1, 2, 9), 8);
    }

    private static void fast(String text, int n, int fuel, String want) {
        Bench bench = new Bench();
        bench.load(0, text);
        String what = "fast of " + text + ", " + n + ", " + fuel;
        due(what, Bench.outcome(() -> bench.desk.fast(0, n, fuel)), want);
        due("slot after " + what, bench.read(0).toString(), Tree.of(text).toString());
    }

    private static void records() {
        Bench bench = new Bench();
        bench.load(0, "w^w");
        bench.load(1, "w+1");
        bench.load(2, "w");
        bench.load(3, "3");
        for (int slot = 0; slot < 4; slot++) {
            due("record", bench.desk.record(slot), slot + 1);
            due("rise of falling ones", bench.desk.rise(), -1);
        }
        due("record of the same", bench.desk.record(3), 5);
        due("rise at the same", bench.desk.rise(), 4);
        bench.desk.replace(1, 0);
        due("rise at the first same", bench.desk.rise(), 1);
        bench.desk.replace(0, 2);
        due("rise at a greater one", bench.desk.rise(), 1);
        bench.desk.replace(0, 0);
        bench.desk.replace(1, 2);
        due("rise behind the first", bench.desk.rise(), 2);
        bench.desk.finite(9, 2);
        bench.desk.recall(1, 5);
        due("a record is a copy", bench.read(5).toString(), "w");
        bench.desk.finite(8, 5);
        bench.desk.recall(1, 6);
        due("a recalled one is a copy", bench.read(6).toString(), "w");
        due("wipe", bench.desk.wipe(), 5);
        due("wipe again", bench.desk.wipe(), 0);
        due("rise of none", bench.desk.rise(), -1);
        due("slot after wipe", bench.read(0).toString(), "w^(w)");
        due("record after wipe", bench.desk.record(3), 1);
        due("rise of one", bench.desk.rise(), -1);
        bench.desk.recall(0, 7);
        due("recall after wipe", bench.read(7).toString(), "3");
    }

    private static void wrongRecords() {
        Bench bench = new Bench();
        due("record of slot 8", Bench.outcome(() -> bench.desk.record(8)), SLOT);
        due("record of slot -1", Bench.outcome(() -> bench.desk.record(-1)), SLOT);
        for (int i = 0; i < 12; i++) {
            bench.desk.finite(100 - i, 0);
            due("record", bench.desk.record(0), i + 1);
        }
        due("record number 13", Bench.outcome(() -> bench.desk.record(0)), ROOM);
        due("record number 13 of slot 8", Bench.outcome(() -> bench.desk.record(8)), SLOT);
        due("rise of 12", bench.desk.rise(), -1);
        bench.desk.replace(11, 1);
        bench.desk.recall(11, 2);
        due("the last record", bench.read(2).toString(), "0");
        due("replace 12", Bench.outcome(() -> replace(bench, 12, 0)), SLOT);
        due("replace -1", Bench.outcome(() -> replace(bench, -1, 0)), SLOT);
        due("replace by slot 8", Bench.outcome(() -> replace(bench, 0, 8)), SLOT);
        due("replace by slot -1", Bench.outcome(() -> replace(bench, 0, -1)), SLOT);
        due("recall 12", Bench.outcome(() -> recall(bench, 12, 0)), SLOT);
        due("recall -1", Bench.outcome(() -> recall(bench, -1, 0)), SLOT);
        due("recall to 8", Bench.outcome(() -> recall(bench, 0, 8)), SLOT);
        due("recall to -1", Bench.outcome(() -> recall(bench, 0, -1)), SLOT);
        due("wipe of 12", bench.desk.wipe(), 12);
        due("replace of a wiped one", Bench.outcome(() -> replace(bench, 0, 0)), SLOT);
        due("recall of a wiped one", Bench.outcome(() -> recall(bench, 0, 0)), SLOT);
    }

    /** A call that makes slot 3 of slot 0. */
    interface Maker {
        int answer(Bench bench);
    }

    private static void one(String what, String a, String want, Maker maker) {
        Bench bench = new Bench();
        bench.load(0, a);
        bench.load(3, "w+1");
        dueResult(what, bench, Bench.outcome(() -> maker.answer(bench)), 3, want);
        due("slot after " + what, bench.read(0).toString(), Tree.of(a).toString());
    }

    private static void op(int kind, String a, String b, String want) {
        Bench bench = new Bench();
        bench.load(0, a);
        bench.load(1, b);
        bench.load(3, "w+1");
        String what = "op " + kind + " of " + a + " and " + b;
        dueResult(what, bench, Bench.outcome(() -> bench.desk.op(kind, 0, 1, 3)), 3, want);
        due("first slot after " + what, bench.read(0).toString(), Tree.of(a).toString());
        due("second slot after " + what, bench.read(1).toString(), Tree.of(b).toString());
    }

    /** The outcome is a size (null for a call that answers none), or an exception: then w+1 stays. */
    private static void dueResult(String what, Bench bench, String outcome, int slot, String want) {
        if (want.endsWith("Exception")) {
            due(what, outcome == null ? "nothing thrown" : outcome, want);
            due("slot after " + what, bench.read(slot).toString(), "w+1");
            return;
        }
        String size = Integer.toString(Tree.of(want).size());
        due("size of " + what, outcome == null ? size : outcome, size);
        due(what, bench.read(slot).toString(), want);
    }

    private static int finite(Bench bench, int n, int to) {
        bench.desk.finite(n, to);
        return 0;
    }

    private static int raise(Bench bench, int e, int c, int to) {
        bench.desk.raise(e, c, to);
        return 0;
    }

    private static int replace(Bench bench, int i, int a) {
        bench.desk.replace(i, a);
        return 0;
    }

    private static int recall(Bench bench, int i, int to) {
        bench.desk.recall(i, to);
        return 0;
    }

    private static void due(String what, Object got, Object want) {
        Bench.due(what, got, want);
    }
}

/** The edges that promises 1 to 14 name, sentence by sentence: the last input taken, the first refused. */
public final class CallEdgeTest {
    private static final String ARGUMENT = Stand.ARGUMENT;
    /** Of size 19; its members but for member 0 are of size 21. */
    private static final String LARGE = "w^(w^7+w^6+w^5+w^4+w^3+w^2+w+1)+w^w*2";
    /** Of size 18; its member 2 is of size 20, and so is that one's, but the next is of size 21. */
    private static final String SMALLER = "w^(w^7+w^6+w^5+w^4+w^3+w^2+w)+w^w*2";
    private static final String TEN_LARGE_TERMS = "w^13*1000000+w^12*1000000+w^11*1000000+w^10*1000000"
            + "+w^9*1000000+w^8*1000000+w^7*1000000+w^6*1000000+w^5*1000000+w^4*1000000";

    public static void main(String[] args) {
        newObject();
        finite();
        raise();
        opKinds();
        opArguments();
        member();
        step();
        chopWays();
        chopCopies();
        start();
        compare();
        kind();
        size();
        at();
        value();
        valueBeyond();
        fastArguments();
        fastFuel();
        fastNumber();
        fastPile();
        fastFirst();
        Bench.finish();
    }

    /** On both sides of what is taken at that place of the arguments, the call is refused. */
    private static void refusesOutside(int place, int least, int most, String[] slots,
            String name, int... arguments) {
        int[] outside = {least - 1, most + 1, Integer.MIN_VALUE, Integer.MAX_VALUE};
        for (int value : outside) {
            int[] wrong = arguments.clone();
            wrong[place] = value;
            Stand.with(slots).refuses(ARGUMENT, name, wrong);
        }
    }

    private static String[] slots(String... texts) {
        return texts;
    }

    private static void newObject() {
        Stand.sentence("Promise 1: All slots are 0, nothing is recorded");
        for (int slot = 0; slot < Stand.SLOTS; slot++) {
            OrdinalDesk desk = new OrdinalDesk();
            Stand.due("size of new slot " + slot, desk.size(slot), 0);
            Stand.due("kind of new slot " + slot, desk.kind(slot), 0);
            Stand.due("at of new slot " + slot, desk.at(slot, 0), -1);
            Stand.due("recall of a new object", Calls.outcome(desk, "recall", slot, 0), Stand.SLOT);
            Stand.due("replace of a new object", Calls.outcome(desk, "replace", slot, 0), Stand.SLOT);
        }
        Stand.due("rise of a new object", new OrdinalDesk().rise(), -1);
        Stand.due("wipe of a new object", new OrdinalDesk().wipe(), 0);
        Stand.due("record of a new object", new OrdinalDesk().record(0), 1);
    }

    private static void finite() {
        Stand.sentence("Promise 2: IllegalArgumentException when n is not 0 .. 1000000");
        Stand.with("w").makes(0, "0", "finite", 0, 0);
        Stand.with("w").makes(0, "1", "finite", 1, 0);
        Stand.with("w").makes(0, "1000000", "finite", 1000000, 0);
        refusesOutside(0, 0, 1000000, slots("w"), "finite", 0, 0);
    }

    private static void raise() {
        Stand.sentence("Promise 3: IllegalArgumentException when c is not 1 .. 1000000");
        Stand.with("w", "5").makes(1, "w^w", "raise", 0, 1, 1);
        Stand.with("w", "5").makes(1, "w^w*1000000", "raise", 0, 1000000, 1);
        Stand.with("0", "5").makes(1, "1", "raise", 0, 1, 1);
        refusesOutside(1, 1, 1000000, slots("w", "5"), "raise", 0, 0, 1);
        refusesOutside(1, 1, 1000000, slots("0", "5"), "raise", 0, 0, 1);
        Stand.sentence("Promise 3: A slot becomes w^e c, e being another one's");
        Stand.with("w").makes(0, "w^w*2", "raise", 0, 2, 0);
    }

    private static void opKinds() {
        Stand.sentence("Promise 4: IllegalArgumentException when kind is not 0 .. 7");
        String[] due = {"w*2+1", "w^2+w", "w^(w+1)", "w*2+1", "w^2+w", "1", "1", "1"};
        for (int kind = 0; kind < due.length; kind++) {
            String first = kind < 5 ? "w" : "w+1";
            String second = kind < 5 ? "w+1" : "w";
            Stand.with(first, second).makes(2, due[kind], "op", kind, 0, 1, 2);
            inPlace(kind, first, second, due[kind]);
        }
        refusesOutside(0, 0, 7, slots("w+1", "w"), "op", 0, 0, 1, 2);
    }

    /** A slot that is read may be the one that is written. */
    private static void inPlace(int kind, String a, String b, String want) {
        Stand.with(a, b).makes(0, want, "op", kind, 0, 1, 0);
        Stand.with(a, b).makes(1, want, "op", kind, 0, 1, 1);
    }

    private static void opArguments() {
        Stand.sentence("Promise 4: IllegalArgumentException when .. 5 with a less than b");
        String[] rising = {"0", "1", "999999", "1000000", "w", "w+1", "w*2", "w^2", "w^2+w", "w^w", "w^(w+1)"};
        for (int i = 0; i < rising.length; i++) {
            Stand.with(rising[i], rising[i]).makes(2, "0", "op", 5, 0, 1, 2);
            if (i > 0) {
                Stand.with(rising[i - 1], rising[i]).refuses(ARGUMENT, "op", 5, 0, 1, 2);
                Stand.with(rising[i - 1], rising[i]).makes(2, "0", "op", 6, 0, 1, 2);
                Stand.with(rising[i - 1], rising[i]).makes(2, rising[i - 1], "op", 7, 0, 1, 2);
            }
        }
        Stand.with("w+1", "w").makes(2, "1", "op", 5, 0, 1, 2);
        Stand.sentence("Promise 4: IllegalArgumentException when .. 6 or 7 with b = 0");
        String[] any = {"0", "1", "w+1"};
        String[] withZero = {"%", "0", "1", "%", "0", "%"};
        for (String a : any) {
            for (int kind = 0; kind < withZero.length; kind++) {
                Stand.with(a, "0").makes(2, withZero[kind].replace("%", a), "op", kind, 0, 1, 2);
            }
            Stand.with(a, "0").refuses(ARGUMENT, "op", 6, 0, 1, 2);
            Stand.with(a, "0").refuses(ARGUMENT, "op", 7, 0, 1, 2);
            Stand.with(a, "1").makes(2, a, "op", 6, 0, 1, 2);
            Stand.with(a, "1").makes(2, "0", "op", 7, 0, 1, 2);
        }
    }

    private static void member() {
        Stand.sentence("Promise 5: IllegalArgumentException when a is no limit");
        Stand.with("0").refuses(ARGUMENT, "member", 0, 1, 1);
        Stand.with("1").refuses(ARGUMENT, "member", 0, 1, 1);
        Stand.with("1000000").refuses(ARGUMENT, "member", 0, 1, 1);
        Stand.with("w+1").refuses(ARGUMENT, "member", 0, 1, 1);
        Stand.with("w").makes(1, "1", "member", 0, 1, 1);
        Stand.with("w^(w+1)").makes(1, "w^w", "member", 0, 1, 1);
        Stand.sentence("Promise 5: IllegalArgumentException when .. n not 0 .. 1000000");
        Stand.with("w^2").makes(1, "0", "member", 0, 0, 1);
        Stand.with("w^2").makes(1, "w", "member", 0, 1, 1);
        Stand.with("w^2").makes(1, "w*1000000", "member", 0, 1000000, 1);
        Stand.with("w^w").makes(1, "1", "member", 0, 0, 1);
        Stand.with("w^w").makes(1, "w^1000000", "member", 0, 1000000, 1);
        Stand.with("w^2").makes(0, "w*3", "member", 0, 3, 0);
        refusesOutside(1, 0, 1000000, slots("w^2"), "member", 0, 0, 1);
    }

    private static void step() {
        Stand.sentence("Promise 6: IllegalArgumentException when a is 0");
        Stand.with("0").refuses(ARGUMENT, "step", 0, 2, 1);
        Stand.with("1").makes(1, "0", "step", 0, 2, 1);
        Stand.sentence("Promise 6: IllegalArgumentException when .. base not 2 .. 1000000");
        Stand.with("w").makes(1, "1", "step", 0, 2, 1);
        Stand.with("w").makes(1, "999999", "step", 0, 1000000, 1);
        Stand.with("w+1").makes(1, "w", "step", 0, 1000000, 1);
        Stand.with("w^2").makes(0, "w*2+2", "step", 0, 3, 0);
        refusesOutside(1, 2, 1000000, slots("w"), "step", 0, 2, 1);
        refusesOutside(1, 2, 1000000, slots("w+1"), "step", 0, 2, 1);
        Stand.with("w").refuses(ARGUMENT, "step", 0, 0, 1);
    }

    private static void chopWays() {
        Stand.sentence("Promise 7: IllegalArgumentException when way is less than 0");
        Stand.with("w").makes(1, "3", "chop", 0, 0, 2, 1);
        Stand.with("w").refuses(ARGUMENT, "chop", 0, -1, 2, 1);
        Stand.with("w").refuses(ARGUMENT, "chop", 0, -8, 2, 1);
        Stand.with("5").refuses(ARGUMENT, "chop", 0, -8, 2, 1);
        Stand.with("5").refuses(ARGUMENT, "chop", 0, Integer.MIN_VALUE, 2, 1);
        Stand.with("5").makes(1, "4", "chop", 0, Integer.MAX_VALUE - 7, 2, 1);
        Stand.sentence("Promise 7: IllegalArgumentException when .. there is no such term");
        Stand.with("0").refuses(ARGUMENT, "chop", 0, 0, 2, 1);
        Stand.with("5").refuses(ARGUMENT, "chop", 0, 1, 2, 1);
        Stand.with("5").refuses(ARGUMENT, "chop", 0, 7, 2, 1);
        Stand.with("w+5").makes(1, "w+4", "chop", 0, 1, 2, 1);
        Stand.with("w+5").refuses(ARGUMENT, "chop", 0, 2, 2, 1);
        Stand.with("w+5").refuses(ARGUMENT, "chop", 0, 8, 2, 1);
        Stand.with("w^(w+5)").makes(1, "w^(w+4)*3", "chop", 0, 8, 2, 1);
        Stand.with("w^(w+5)").refuses(ARGUMENT, "chop", 0, 16, 2, 1);
        Stand.with("w^(w+5)").refuses(ARGUMENT, "chop", 0, 9, 2, 1);
        Stand.with("w^(w+5)").refuses(ARGUMENT, "chop", 0, 64, 2, 1);
        Stand.with("w^(w+5)").makes(1, "w^8", "chop", 0, 0, 2, 1);
    }

    private static void chopCopies() {
        Stand.sentence("Promise 7: IllegalArgumentException when .. copies is not 0 .. 1000");
        Stand.with("w^2").makes(1, "w", "chop", 0, 0, 0, 1);
        Stand.with("w^2").makes(1, "w*1001", "chop", 0, 0, 1000, 1);
        Stand.with("5").makes(1, "4", "chop", 0, 0, 0, 1);
        Stand.with("5").makes(1, "4", "chop", 0, 0, 1000, 1);
        Stand.with("w^2").makes(0, "w*3", "chop", 0, 0, 2, 0);
        refusesOutside(2, 0, 1000, slots("w^2"), "chop", 0, 0, 0, 1);
        refusesOutside(2, 0, 1000, slots("5"), "chop", 0, 0, 0, 1);
    }

    private static void start() {
        Stand.sentence("Promise 8: IllegalArgumentException when n is not 0 .. 1000000000");
        Stand.with("w").makes(0, "0", "start", 0, 10, 0);
        Stand.with("w").makes(0, "1", "start", 1, 10, 0);
        Stand.with("w").makes(0, "w^8*9+w^7*9+w^6*9+w^5*9+w^4*9+w^3*9+w^2*9+w*9+9", "start", 999999999, 10, 0);
        Stand.with("w").makes(0, "w^9", "start", 1000000000, 10, 0);
        refusesOutside(0, 0, 1000000000, slots("w"), "start", 0, 10, 0);
        Stand.sentence("Promise 8: IllegalArgumentException when .. base not 2 .. 1000");
        Stand.with("w").makes(0, "w^w", "start", 4, 2, 0);
        Stand.with("w").makes(0, "0", "start", 0, 2, 0);
        Stand.with("w").makes(0, "w^3", "start", 1000000000, 1000, 0);
        Stand.with("w").makes(0, "w^2*999+w*999+999", "start", 999999999, 1000, 0);
        refusesOutside(1, 2, 1000, slots("w"), "start", 4, 2, 0);
        refusesOutside(1, 2, 1000, slots("w"), "start", 0, 2, 0);
        Stand.with("w").refuses(ARGUMENT, "start", 4, 0, 0);
        Stand.sentence("Promise 8: with all coefficients, of exponents too, less than base");
        Stand.with("w").makes(0, "1", "start", 1, 2, 0);
        Stand.with("w").makes(0, "w", "start", 2, 2, 0);
        Stand.with("w").makes(0, "2", "start", 2, 3, 0);
        Stand.with("w").makes(0, "w", "start", 3, 3, 0);
        Stand.with("w").makes(0, "w^2", "start", 9, 3, 0);
        Stand.with("w").makes(0, "w^2*2+w*2+2", "start", 26, 3, 0);
        Stand.with("w").makes(0, "w^w", "start", 27, 3, 0);
        Stand.with("w").makes(0, "999", "start", 999, 1000, 0);
        Stand.with("w").makes(0, "w", "start", 1000, 1000, 0);
    }

    private static void compare() {
        Stand.sentence("Promise 9: -1 when a is less than b, 0 when they are the same, 1 otherwise");
        Stand.with("0", "1").answers(-1, "compare", 0, 1);
        Stand.with("0", "0").answers(0, "compare", 0, 1);
        Stand.with("1", "0").answers(1, "compare", 0, 1);
        Stand.with("1", "1000000").answers(-1, "compare", 0, 1);
        Stand.with("1000000", "1").answers(1, "compare", 0, 1);
        Stand.with("w^w", "w^w").answers(0, "compare", 0, 1);
        Stand.with("w^w").answers(0, "compare", 0, 0);
    }

    private static void kind() {
        Stand.sentence("Promise 10: 0 when a is 0, 1 when it is a successor, 2 when it is a limit");
        Stand.with("0").answers(0, "kind", 0);
        Stand.with("1").answers(1, "kind", 0);
        Stand.with("w").answers(2, "kind", 0);
        Stand.with("w+1").answers(1, "kind", 0);
        Stand.with(Bench.tower(20, 1).toString()).answers(2, "kind", 0);
        Stand.with(Bench.tower(19, 1) + "+1").answers(1, "kind", 0);
    }

    private static void size() {
        Stand.sentence("Promise 11: The size of a");
        Stand.with("0").answers(0, "size", 0);
        Stand.with("1").answers(1, "size", 0);
        Stand.with(Bench.tower(20, 1).toString()).answers(20, "size", 0);
        Stand.with("w^10+w^9+w^8+w^7+w^6+w^5+w^4+w^3+w^2+w").answers(20, "size", 0);
    }

    private static void at() {
        Stand.sentence("Promise 12: Number i (from 0) of the writing of a; NONE when there is none");
        Stand.with("w*7").answers(1, "at", 0, 0);
        Stand.with("w*7").answers(7, "at", 0, 5);
        int[] outside = {-1, 6, 7, Integer.MIN_VALUE, Integer.MAX_VALUE};
        for (int i : outside) {
            Stand.with("w*7").answers(-1, "at", 0, i);
        }
        Stand.with("0").answers(-1, "at", 0, 0);
        Stand.with("0").answers(-1, "at", 0, -1);
        Stand.with(Bench.tower(20, 1) + "*9").answers(9, "at", 0, 59);
        Stand.with(Bench.tower(20, 1) + "*9").answers(-1, "at", 0, 60);
        // What was written there before is no part of a shorter ordinal.
        Bench bench = new Bench();
        bench.load(0, "w^2+w+5");
        bench.desk.finite(4, 0);
        Stand.due("at of a shortened one", bench.desk.at(0, 3), -1);
    }

    private static void value() {
        Stand.sentence("Promise 13: IllegalArgumentException when n is not 0 .. 1000");
        Stand.with("w^2+3").answers(3, "value", 0, 0);
        Stand.with("w^2+3").answers(1000003, "value", 0, 1000);
        Stand.with("0").answers(0, "value", 0, 1000);
        refusesOutside(1, 0, 1000, slots("w^2+3"), "value", 0, 0);
        refusesOutside(1, 0, 1000, slots("0"), "value", 0, 0);
    }

    private static void valueBeyond() {
        Stand.sentence("Promise 13: NONE when it is beyond 1000000000");
        Stand.with("w^3*999999+w^2*9+w*9+9").answers(999999999, "value", 0, 10);
        Stand.with("w^3*999999+w^2*9+w*9+10").answers(1000000000, "value", 0, 10);
        Stand.with("w^3*999999+w^2*9+w*9+11").answers(-1, "value", 0, 10);
        Stand.with("w^9").answers(1000000000, "value", 0, 10);
        Stand.with("w^9+1").answers(-1, "value", 0, 10);
        Stand.with("w^10").answers(-1, "value", 0, 10);
        Stand.with("w^3").answers(1000000000, "value", 0, 1000);
        Stand.with("w^3+1").answers(-1, "value", 0, 1000);
        Stand.with("w^3*2").answers(-1, "value", 0, 1000);
        Stand.with("w^4").answers(-1, "value", 0, 1000);
        Stand.with("w*1000000").answers(1000000000, "value", 0, 1000);
        Stand.with("w*1000000+1").answers(-1, "value", 0, 1000);
        Stand.with("w^29").answers(536870912, "value", 0, 2);
        Stand.with("w^30").answers(-1, "value", 0, 2);
        // Powers and sums that come back to a small number if they wrap around.
        Stand.with(TEN_LARGE_TERMS).answers(-1, "value", 0, 1000);
        Stand.with("w^(" + TEN_LARGE_TERMS.replace("+w^4*1000000", "") + ")").answers(-1, "value", 0, 1000);
        Stand.with("w^32").answers(-1, "value", 0, 2);
        Stand.with("w^64+5").answers(-1, "value", 0, 2);
        Stand.with("w^1000000*1000000").answers(-1, "value", 0, 1000);
        Stand.with("w^(w^(w^32))").answers(-1, "value", 0, 2);
        Stand.with("w^1000000*1000000").answers(1000000, "value", 0, 1);
        Stand.with("w^(w^1000000*1000000)*3").answers(3, "value", 0, 1);
        Stand.with("w^1000000*1000000+7").answers(7, "value", 0, 0);
        Stand.with(Bench.tower(19, 9).toString()).answers(1, "value", 0, 0);
        Stand.with(Bench.tower(20, 9).toString()).answers(0, "value", 0, 0);
    }

    private static void fastArguments() {
        Stand.sentence("Promise 14: IllegalArgumentException when n is not 0 .. 1000");
        Stand.with("0").answers(1, "fast", 0, 0, 1);
        Stand.with("0").answers(1001, "fast", 0, 1000, 1);
        Stand.with("1").answers(2000, "fast", 0, 1000, 1001);
        refusesOutside(1, 0, 1000, slots("0"), "fast", 0, 0, 1);
        refusesOutside(1, 0, 1000, slots("w"), "fast", 0, 0, 0);
        Stand.sentence("Promise 14: IllegalArgumentException when .. fuel not 0 .. 2000");
        Stand.with("0").answers(-1, "fast", 0, 5, 0);
        Stand.with("0").answers(6, "fast", 0, 5, 2000);
        refusesOutside(2, 0, 2000, slots("0"), "fast", 0, 5, 0);
        refusesOutside(2, 0, 2000, slots("w"), "fast", 0, 5, 0);
    }

    private static void fastFuel() {
        Stand.sentence("Promise 14: NONE when it would need more applications than fuel");
        fuelNeeded("0", 5, 1, 6);
        fuelNeeded("1", 0, 1, 0);
        fuelNeeded("1", 5, 6, 10);
        fuelNeeded("1", 1000, 1001, 2000);
        fuelNeeded("2", 2, 9, 8);
        fuelNeeded("2", 7, 897, 896);
        fuelNeeded("w", 0, 2, 1);
        fuelNeeded("w", 2, 10, 8);
        fuelNeeded("w+1", 1, 4, 2);
        fuelNeeded("1999", 1, 2000, 2);
        Stand.with("2000").answers(-1, "fast", 0, 1, 2000);
        Stand.with("2").answers(-1, "fast", 0, 8, 2000);
        Stand.with("1000000").answers(0, "fast", 0, 0, 1);
    }

    private static void fuelNeeded(String a, int n, int fuel, int want) {
        Stand.with(a).answers(want, "fast", 0, n, fuel);
        Stand.with(a).answers(-1, "fast", 0, n, fuel - 1);
    }

    /** The number grows by 1 an application, from 1000 at most: no call gets it beyond 3000, and these are fine. */
    private static void fastNumber() {
        Stand.sentence("Promise 14: NONE when it would need .. a number beyond 1000000");
        Stand.with("0").answers(1001, "fast", 0, 1000, 2000);
        Stand.with("1").answers(2000, "fast", 0, 1000, 2000);
    }

    private static void fastPile() {
        Stand.sentence("Promise 14: NONE when it would need .. more than 12 on the pile");
        // Each + 1 leaves one on the pile; that LARGE is applied at all shows as its exception.
        Stand.with(LARGE + "+11").refuses(Stand.ROOM, "fast", 0, 2, 2000);
        Stand.with(LARGE + "+12").refuses(Stand.ROOM, "fast", 0, 2, 2000);
        Stand.with(LARGE + "+13").answers(-1, "fast", 0, 2, 2000);
        Stand.with(LARGE + "+14").answers(-1, "fast", 0, 2, 2000);
        // The member that is made there has room, and is the twelfth or the thirteenth.
        Stand.with(SMALLER + "+11").refuses(Stand.ROOM, "fast", 0, 2, 2000);
        Stand.with(SMALLER + "+12").answers(-1, "fast", 0, 2, 2000);
        // At 1 each goes when the next one comes, so the pile stays at one.
        Stand.with(LARGE + "+13").refuses(Stand.ROOM, "fast", 0, 1, 2000);
        Stand.with(LARGE + "+1999").refuses(Stand.ROOM, "fast", 0, 1, 2000);
        Stand.with(LARGE + "+2000").answers(-1, "fast", 0, 1, 2000);
        Stand.with("1000000").answers(-1, "fast", 0, 1000, 2000);
    }

    private static void fastFirst() {
        Stand.sentence("Promise 14: whichever comes first, or an ordinal for which there is no room, "
                + "made before it comes onto the pile: then that is thrown");
        Stand.with(LARGE).answers(-1, "fast", 0, 2, 0);
        Stand.with(LARGE).refuses(Stand.ROOM, "fast", 0, 2, 1);
        Stand.with(LARGE + "+1").answers(-1, "fast", 0, 2, 1);
        Stand.with(LARGE + "+1").refuses(Stand.ROOM, "fast", 0, 2, 2);
        Stand.with(LARGE + "+12").answers(-1, "fast", 0, 2, 12);
        Stand.with(LARGE + "+12").refuses(Stand.ROOM, "fast", 0, 2, 13);
    }
}

/**
 * The edges of the sentence "There is NO ROOM for an ordinal of a size beyond 20, or with a
 * coefficient that would be beyond 1000000; also for a^m with m beyond 20 for an infinite a; and
 * when there is none for one on the way: a product in a^m, a member in a step, or in FAST. Then
 * IllegalStateException is thrown": for each call that may throw it, the last ordinal that there is
 * room for, and the first that there is none for.
 */
public final class RoomEdgeTest {
    private static final String ROOM = Stand.ROOM;
    private static final String ON_THE_WAY =
            "when there is none for one on the way: a product in a^m, a member in a step, or in FAST";

    /** First terms of these sizes, which leave a little room behind them. */
    private static final String SIZE_14 = "w^(w^7+w^6+w^5+w^4+w^3+w^2+1)";
    private static final String SIZE_15 = "w^(w^7+w^6+w^5+w^4+w^3+w^2+w)";
    private static final String SIZE_16 = "w^(w^7+w^6+w^5+w^4+w^3+w^2+w+1)";
    private static final String TEN_TERMS = "w^10+w^9+w^8+w^7+w^6+w^5+w^4+w^3+w^2+w";

    public static void main(String[] args) {
        sizeOfOperations();
        sizeOfPowers();
        sizeOfNaturalOnes();
        sizeOfOthers();
        coefficientOfOperations();
        coefficientOfPowers();
        coefficientOfNaturalOnes();
        coefficientOfOthers();
        factors();
        onTheWayOfPowers();
        onTheWayOfSteps();
        onTheWayOfFast();
        Bench.finish();
    }

    private static String tower(int size, int number) {
        return Bench.tower(size, number).toString();
    }

    private static void op(int kind, String a, String b, String want) {
        Stand.with(a, b).gives(2, want, "op", kind, 0, 1, 2);
    }

    private static void sizeOfOperations() {
        Stand.sentence("NO ROOM for an ordinal of a size beyond 20");
        op(0, tower(19, 1), "5", tower(19, 1) + "+5");
        op(0, tower(20, 1), "5", ROOM);
        op(0, tower(20, 1), "0", tower(20, 1));
        op(0, tower(20, 1), tower(20, 1), tower(20, 1) + "*2");
        op(0, TEN_TERMS, "w", TEN_TERMS + "*2");
        op(0, TEN_TERMS, "1", ROOM);
        op(0, TEN_TERMS, tower(20, 1), tower(20, 1));
        op(1, tower(19, 1), "w", "w^(" + tower(18, 1) + "+1)");
        op(1, tower(20, 1), "w", ROOM);
        op(1, tower(20, 1), "2", tower(20, 1) + "*2");
        op(1, "w^w", "w^5+w^4+w^3+w^2+w", "w^(w+5)+w^(w+4)+w^(w+3)+w^(w+2)+w^(w+1)");
        op(1, "w^w+w", "w^5+w^4+w^3+w^2", "w^(w+5)+w^(w+4)+w^(w+3)+w^(w+2)");
        op(1, "w^w+1", "w^5+w^4+w^3+w^2+1", "w^(w+5)+w^(w+4)+w^(w+3)+w^(w+2)+w^w+1");
        op(1, "w^w+w", "w^5+w^4+w^3+w^2+1", ROOM);
        op(5, tower(20, 2), "0", tower(20, 2));
        op(5, tower(20, 2), "1", tower(20, 2));
        op(6, tower(20, 2), "1", tower(20, 2));
        op(7, tower(20, 2), tower(20, 3), tower(20, 2));
    }

    private static void sizeOfPowers() {
        op(2, "2", tower(19, 1), "w^(" + tower(19, 1) + ")");
        op(2, "2", tower(20, 1), ROOM);
        op(2, "w", tower(19, 1), "w^(" + tower(19, 1) + ")");
        op(2, "w", tower(20, 1), ROOM);
        op(2, "w", tower(18, 1) + "+2", "w^(" + tower(18, 1) + "+2)");
        op(2, "w", tower(19, 1) + "+2", ROOM);
        op(2, "w^w+w+1", "3", "w^(w*3)+w^(w*2+1)+w^(w*2)+w^(w+1)+w^w+w+1");
        op(2, "w+1", "9", "w^9+w^8+w^7+w^6+w^5+w^4+w^3+w^2+w+1");
        op(2, "w+1", "10", ROOM);
        op(2, tower(20, 1), "0", "1");
        op(2, tower(20, 1), "1", tower(20, 1));
        op(2, "0", tower(20, 1), "0");
        op(2, "1", tower(20, 1), "1");
    }

    private static void sizeOfNaturalOnes() {
        op(3, "w^10+w^8+w^6+w^4+w^2", "w^9+w^7+w^5+w^3+w", TEN_TERMS);
        op(3, "w^10+w^8+w^6+w^4+w^2", "w^9+w^7+w^5+w^3+w+1", ROOM);
        op(3, TEN_TERMS, "w", TEN_TERMS + "*2");
        op(3, "1", TEN_TERMS, ROOM);
        op(4, tower(19, 1), "w", "w^(" + tower(18, 1) + "+1)");
        op(4, tower(20, 1), "w", ROOM);
        op(4, "w+1", "w^9+w^8+w^7+w^6+w^5+w^4+w^3+w^2+w",
                "w^10+w^9*2+w^8*2+w^7*2+w^6*2+w^5*2+w^4*2+w^3*2+w^2*2+w");
        op(4, "w+1", "w^9+w^8+w^7+w^6+w^5+w^4+w^3+w^2+w+1", ROOM);
        op(4, TEN_TERMS, "1", TEN_TERMS);
    }

    private static void sizeOfOthers() {
        Stand.with(tower(19, 4)).makes(1, tower(20, 4), "raise", 0, 1, 1);
        Stand.with(tower(20, 4)).refuses(ROOM, "raise", 0, 1, 1);
        Stand.with(TEN_TERMS).refuses(ROOM, "raise", 0, 1, 1);
        Stand.with(SIZE_15 + "+w^w*2").makes(1, SIZE_15 + "+w^w+w^7", "member", 0, 7, 1);
        Stand.with(SIZE_16 + "+w^w*2").refuses(ROOM, "member", 0, 7, 1);
        Stand.with(SIZE_16 + "+w^w*2").makes(1, SIZE_16 + "+w^w+1", "member", 0, 0, 1);
        Stand.with(SIZE_15 + "+w^w*2").makes(1, SIZE_15 + "+w^w+w^3", "chop", 0, 1, 2, 1);
        Stand.with(SIZE_16 + "+w^w*2").refuses(ROOM, "chop", 0, 1, 2, 1);
        Stand.with("w^(w^w*2)*2+w^9+w^8+w^7+w^6+w^5")
                .makes(1, "w^(w^w*2)+w^(w^w+w^3)+w^9+w^8+w^7+w^6+w^5", "chop", 0, 0, 2, 1);
        Stand.with("w^(w^w*2)*2+w^9+w^8+w^7+w^6+w^5+1").refuses(ROOM, "chop", 0, 0, 2, 1);
        Stand.with().makes(1, "w^(w^w+w)+w^(w^w)+w^(w+1)+w^w+w+1", "start", 95, 2, 1);
        Stand.with().refuses(ROOM, "start", 111, 2, 1);
        Stand.with().makes(1, "w^(w*2+1)+w^(w+2)+w^(w+1)+w^w+w^2+w+1", "start", 2551, 3, 1);
        Stand.with().refuses(ROOM, "start", 3271, 3, 1);
        Stand.with().refuses(ROOM, "start", 999999999, 8, 1);
        Stand.with().refuses(ROOM, "start", 1000000000, 2, 1);
    }

    private static void coefficientOfOperations() {
        Stand.sentence("or with a coefficient that would be beyond 1000000");
        op(0, "999999", "1", "1000000");
        op(0, "1000000", "1", ROOM);
        op(0, "1000000", "1000000", ROOM);
        op(0, "w^w*400000+w", "w^w*600000+5", "w^w*1000000+5");
        op(0, "w^w*400000+w", "w^w*600001+5", ROOM);
        op(0, "w+1000000", "w", "w*2");
        op(1, "1000", "1000", "1000000");
        op(1, "101", "9901", ROOM);
        op(1, "1000000", "1000000", ROOM);
        op(1, "w*1000+1", "1000", "w*1000000+1");
        op(1, "w*101+1", "9901", ROOM);
        op(1, "w*1000000", "w*1000000", "w^2*1000000");
        op(1, "w^999999", "w", "w^1000000");
        op(1, "w^1000000", "w", ROOM);
        op(1, "w^(w*400000)", "w^(w*600000)", "w^(w*1000000)");
        op(1, "w^(w*400000)", "w^(w*600001)", ROOM);
    }

    private static void coefficientOfPowers() {
        op(2, "1000000", "1", "1000000");
        op(2, "1000", "2", "1000000");
        op(2, "1001", "2", ROOM);
        op(2, "10", "6", "1000000");
        op(2, "10", "7", ROOM);
        op(2, "2", "19", "524288");
        op(2, "2", "20", ROOM);
        op(2, "2", "1000000", ROOM);
        op(2, "1000000", "1000000", ROOM);
        op(2, "1000", "w+2", "w*1000000");
        op(2, "1001", "w+2", ROOM);
        op(2, "w^50000", "20", "w^1000000");
        op(2, "w^50001", "20", ROOM);
        op(2, "w^500000*7", "2", "w^1000000*7");
        op(2, "w^500001*7", "2", ROOM);
        op(2, "w*1000+1000", "2", "w^2*1000+w*1000000+1000");
        op(2, "w*101+9901", "2", ROOM);
        op(2, "w*101+9901", "1", "w*101+9901");
    }

    private static void coefficientOfNaturalOnes() {
        op(3, "400000", "600000", "1000000");
        op(3, "400000", "600001", ROOM);
        op(3, "w^w*400000+1", "w^w*600000+w", "w^w*1000000+w+1");
        op(3, "w^w*400000+1", "w^w*600001+w", ROOM);
        op(4, "1000", "1000", "1000000");
        op(4, "101", "9901", ROOM);
        op(4, "1000000", "1000000", ROOM);
        op(4, "w*1000", "1000", "w*1000000");
        op(4, "w*101", "9901", ROOM);
        op(4, "w+1", "w*999999+1", "w^2*999999+w*1000000+1");
        op(4, "w+1", "w*1000000+1", ROOM);
        op(4, "w^400000", "w^600000", "w^1000000");
        op(4, "w^400000", "w^600001", ROOM);
    }

    private static void coefficientOfOthers() {
        Stand.with("w").makes(1, "1000000", "member", 0, 1000000, 1);
        Stand.with("w^2").makes(1, "w*999999+999999", "step", 0, 1000000, 1);
        Stand.with("w+999000").makes(1, "1000000", "chop", 0, 0, 999, 1);
        Stand.with("w+999000").refuses(ROOM, "chop", 0, 0, 1000, 1);
        Stand.with("w^(w+999000)").makes(1, "w^1000000", "chop", 0, 0, 999, 1);
        Stand.with("w^(w+999000)").refuses(ROOM, "chop", 0, 0, 1000, 1);
        Stand.with("w^w+w^3*999999").makes(1, "w^3*1000000", "chop", 0, 0, 2, 1);
        Stand.with("w^w+w^3*1000000").refuses(ROOM, "chop", 0, 0, 2, 1);
    }

    private static void factors() {
        Stand.sentence("also for a^m with m beyond 20 for an infinite a");
        op(2, "w", "20", "w^20");
        op(2, "w", "21", ROOM);
        op(2, "w", "1000000", ROOM);
        op(2, "w^w*7", "20", "w^(w*20)*7");
        op(2, "w^w*7", "21", ROOM);
        op(2, "w", "w^2+20", "w^(w^2+20)");
        op(2, "w", "w^2+21", ROOM);
        op(2, "w", "w*21", "w^(w*21)");
        op(2, "0", "21", "0");
        op(2, "1", "21", "1");
        op(2, "0", "w+21", "0");
        op(2, "1", "w+21", "1");
    }

    private static void onTheWayOfPowers() {
        Stand.sentence(ON_THE_WAY);
        op(2, "w+1", "11", ROOM);
        op(2, "w+1", "20", ROOM);
        op(2, "w+1", "w+3", "w^(w+3)+w^(w+2)+w^(w+1)+w^w");
        op(2, "w+1", "w+10", ROOM);
        op(2, "w^w+w+1", "4", ROOM);
        op(2, "10", "8", ROOM);
        op(2, "10", "w+6", "w*1000000");
        op(2, "10", "w+7", ROOM);
        op(2, "10", "w+1000000", ROOM);
        op(2, "w*101+9901", "3", ROOM);
        op(2, "w*101+9901", "w+2", ROOM);
    }

    private static void step(String a, int base, String want) {
        Stand.with(a).gives(1, want, "step", 0, base, 1);
    }

    private static void onTheWayOfSteps() {
        Stand.sentence(ON_THE_WAY);
        step(SIZE_14 + "+w^w*2", 2, SIZE_14 + "+w^w+w+1");
        step(SIZE_15 + "+w^w*2", 2, ROOM);
        step(SIZE_16 + "+w^w*2", 2, ROOM);
        step(SIZE_16 + "+w^w*2+1", 2, SIZE_16 + "+w^w*2");
        step(tower(20, 1), 2, ROOM);
        step("w^w*2", 9, "w^w+w^8*8+w^7*8+w^6*8+w^5*8+w^4*8+w^3*8+w^2*8+w*8+8");
        step("w^w*2", 10, ROOM);
        step("w^w", 10, "w^9*9+w^8*9+w^7*9+w^6*9+w^5*9+w^4*9+w^3*9+w^2*9+w*9+9");
        step("w^w", 11, ROOM);
        step("w^w", 1000000, ROOM);
    }

    private static void onTheWayOfFast() {
        Stand.sentence(ON_THE_WAY);
        // Its member 2 has the size 20, the member 2 of that too, and the next one 21.
        Stand.with(SIZE_15 + "+w^w*2").answers(-1, "fast", 0, 2, 2);
        Stand.with(SIZE_15 + "+w^w*2").refuses(ROOM, "fast", 0, 2, 3);
        Stand.with(SIZE_16 + "+w^w*2").answers(-1, "fast", 0, 1, 0);
        Stand.with(SIZE_16 + "+w^w*2").refuses(ROOM, "fast", 0, 1, 1);
        Stand.with(SIZE_16 + "+w^w*2").answers(0, "fast", 0, 0, 2);
        Stand.with(SIZE_15 + "+w^w*2").answers(2, "fast", 0, 1, 2000);
        Stand.with(SIZE_16 + "+w^w*2+1").answers(0, "fast", 0, 0, 1);
        Stand.with(SIZE_16 + "+w^w*2+1").answers(-1, "fast", 0, 1, 1);
        Stand.with(SIZE_16 + "+w^w*2+1").refuses(ROOM, "fast", 0, 1, 2);
    }
}

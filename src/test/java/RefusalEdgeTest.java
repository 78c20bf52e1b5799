import java.util.ArrayList;
import java.util.List;

/**
 * The edges of the last paragraphs of "Terms": "SLOTS are 0 .. 7", "In all calls
 * IndexOutOfBoundsException: there is no such slot. Where several fit that a call names, the one
 * named first is thrown; a call that throws changes nothing."
 */
public final class RefusalEdgeTest {
    private static final String SLOT = Stand.SLOT;
    private static final String ARGUMENT = Stand.ARGUMENT;
    private static final String ROOM = Stand.ROOM;
    /** Of size 19; its members but for member 0 are of size 21. */
    private static final String LARGE = "w^(w^7+w^6+w^5+w^4+w^3+w^2+w+1)+w^w*2";
    private static final String LARGEST = Bench.tower(20, 4).toString();

    public static void main(String[] args) {
        firstAndLastSlotMade();
        firstAndLastSlotRead();
        noSuchSlot();
        slotBeforeArgument();
        slotBeforeRoom();
        argumentBeforeRoom();
        nothingChanges();
        nothingChangesInPlace();
        Bench.finish();
    }

    /** w^3 in slot 0 and w^5 in slot 7. */
    private static Stand stand() {
        return Stand.with("w^3", "101", "102", "103", "104", "105", "106", "w^5");
    }

    private static void firstAndLastSlotMade() {
        Stand.sentence("SLOTS are 0 .. 7");
        stand().makes(0, "4", "finite", 4, 0);
        stand().makes(7, "4", "finite", 4, 7);
        stand().makes(7, "w^(w^3)*2", "raise", 0, 2, 7);
        stand().makes(0, "w^(w^5)*2", "raise", 7, 2, 0);
        stand().makes(7, "w^3+101", "op", 0, 0, 1, 7);
        stand().makes(0, "w^5+101", "op", 0, 7, 1, 0);
        stand().makes(7, "w^3", "op", 0, 1, 0, 7);
        stand().makes(0, "w^5", "op", 0, 1, 7, 0);
        stand().makes(7, "w^2*2", "member", 0, 2, 7);
        stand().makes(0, "w^4*2", "member", 7, 2, 0);
        stand().makes(7, "w^2+w+1", "step", 0, 2, 7);
        stand().makes(0, "w^4+w^3+w^2+w+1", "step", 7, 2, 0);
        stand().makes(7, "w^2*2", "chop", 0, 0, 1, 7);
        stand().makes(0, "w^4*2", "chop", 7, 0, 1, 0);
        stand().makes(0, "w+2", "start", 12, 10, 0);
        stand().makes(7, "w+2", "start", 12, 10, 7);
        stand().recorded("w", "9").makes(0, "9", "recall", 1, 0);
        stand().recorded("w", "9").makes(7, "9", "recall", 1, 7);
    }

    private static void firstAndLastSlotRead() {
        stand().answers(-1, "compare", 0, 7);
        stand().answers(1, "compare", 7, 0);
        stand().answers(0, "compare", 0, 0);
        stand().answers(0, "compare", 7, 7);
        stand().answers(3, "at", 0, 3);
        stand().answers(5, "at", 7, 3);
        stand().answers(8, "value", 0, 2);
        stand().answers(32, "value", 7, 2);
        Stand.with("0", "1", "2", "3", "4", "5", "6", "w").answers(0, "kind", 0);
        Stand.with("0", "1", "2", "3", "4", "5", "6", "w").answers(2, "kind", 7);
        Stand.with("0", "1", "2", "3", "4", "5", "6", "w").answers(0, "size", 0);
        Stand.with("0", "1", "2", "3", "4", "5", "6", "w").answers(2, "size", 7);
        Stand.with("0", "1", "2", "3", "4", "5", "6", "1").answers(4, "fast", 0, 3, 2000);
        Stand.with("0", "1", "2", "3", "4", "5", "6", "1").answers(6, "fast", 7, 3, 2000);
        stand().recorded("w").records(2, List.of("w", "w^3"), "record", 0);
        stand().recorded("w").records(2, List.of("w", "w^5"), "record", 7);
        stand().recorded("w", "9").records(0, List.of("w", "w^3"), "replace", 1, 0);
        stand().recorded("w", "9").records(0, List.of("w", "w^5"), "replace", 1, 7);
    }

    /** A call that is fine with w in all slots, and where its arguments name slots. */
    private record Fine(String name, int[] arguments, int... places) { }

    private static List<Fine> fineCalls() {
        List<Fine> calls = new ArrayList<>();
        calls.add(new Fine("finite", new int[] {4, 0}, 1));
        calls.add(new Fine("raise", new int[] {0, 1, 0}, 0, 2));
        for (int kind = 0; kind < 8; kind++) {
            calls.add(new Fine("op", new int[] {kind, 0, 0, 0}, 1, 2, 3));
        }
        calls.add(new Fine("member", new int[] {0, 1, 0}, 0, 2));
        calls.add(new Fine("step", new int[] {0, 2, 0}, 0, 2));
        calls.add(new Fine("chop", new int[] {0, 0, 1, 0}, 0, 3));
        calls.add(new Fine("start", new int[] {4, 2, 0}, 2));
        calls.add(new Fine("compare", new int[] {0, 0}, 0, 1));
        calls.add(new Fine("kind", new int[] {0}, 0));
        calls.add(new Fine("size", new int[] {0}, 0));
        calls.add(new Fine("at", new int[] {0, 0}, 0));
        calls.add(new Fine("value", new int[] {0, 2}, 0));
        calls.add(new Fine("fast", new int[] {0, 1, 9}, 0));
        calls.add(new Fine("record", new int[] {0}, 0));
        calls.add(new Fine("replace", new int[] {0, 0}, 1));
        calls.add(new Fine("recall", new int[] {0, 0}, 1));
        return calls;
    }

    private static void noSuchSlot() {
        Stand.sentence("In all calls IndexOutOfBoundsException: there is no such slot");
        int[] outside = {-1, 8, 9, Integer.MIN_VALUE, Integer.MAX_VALUE};
        for (Fine call : fineCalls()) {
            for (int place : call.places()) {
                for (int slot : outside) {
                    int[] wrong = call.arguments().clone();
                    wrong[place] = slot;
                    Stand.withAll("w").refuses(SLOT, call.name(), wrong);
                }
            }
        }
    }

    private static Stand zeroAndOne() {
        return Stand.with("0", "1");
    }

    private static void slotBeforeArgument() {
        Stand.sentence("Where several fit that a call names, the one named first is thrown");
        zeroAndOne().refuses(SLOT, "finite", -1, 8);
        zeroAndOne().refuses(SLOT, "finite", 1000001, -1);
        zeroAndOne().refuses(SLOT, "raise", 8, 0, 1);
        zeroAndOne().refuses(SLOT, "raise", 0, 0, 8);
        zeroAndOne().refuses(SLOT, "raise", 0, 1000001, -1);
        int[] kinds = {-1, 5, 6, 7, 8};
        for (int kind : kinds) {
            zeroAndOne().refuses(SLOT, "op", kind, 0, kind == 5 ? 1 : 0, 8);
            zeroAndOne().refuses(SLOT, "op", kind, 8, 0, 1);
            zeroAndOne().refuses(SLOT, "op", kind, 0, -1, 1);
        }
        zeroAndOne().refuses(SLOT, "member", 0, 1, 8);
        zeroAndOne().refuses(SLOT, "member", 1, -1, 8);
        zeroAndOne().refuses(SLOT, "member", 8, 1000001, 0);
        zeroAndOne().refuses(SLOT, "step", 0, 2, 8);
        zeroAndOne().refuses(SLOT, "step", 1, 1, 8);
        zeroAndOne().refuses(SLOT, "step", 8, 1000001, 0);
        zeroAndOne().refuses(SLOT, "chop", 0, 0, 0, 8);
        zeroAndOne().refuses(SLOT, "chop", 1, -1, 0, 8);
        zeroAndOne().refuses(SLOT, "chop", 1, 0, 1001, 8);
        zeroAndOne().refuses(SLOT, "chop", 8, -1, -1, 0);
        zeroAndOne().refuses(SLOT, "start", -1, 2, 8);
        zeroAndOne().refuses(SLOT, "start", 1000000001, 2, -1);
        zeroAndOne().refuses(SLOT, "start", 5, 1, 8);
        zeroAndOne().refuses(SLOT, "start", 5, 1001, -1);
        zeroAndOne().refuses(SLOT, "value", 8, -1);
        zeroAndOne().refuses(SLOT, "value", -1, 1001);
        zeroAndOne().refuses(SLOT, "fast", 8, -1, 0);
        zeroAndOne().refuses(SLOT, "fast", 8, 0, -1);
        zeroAndOne().refuses(SLOT, "fast", -1, 1001, 2001);
    }

    private static void slotBeforeRoom() {
        Stand.sentence("Where several fit that a call names, the one named first is thrown");
        Stand.with(LARGEST).refuses(SLOT, "raise", 0, 1, 8);
        Stand.with(LARGEST, "5").refuses(SLOT, "op", 0, 0, 1, 8);
        Stand.with(LARGEST, "w").refuses(SLOT, "op", 1, 0, 1, -1);
        Stand.with("w", LARGEST).refuses(SLOT, "op", 2, 0, 1, 8);
        Stand.with("w", "21").refuses(SLOT, "op", 2, 0, 1, 8);
        Stand.with(LARGEST, "5").refuses(SLOT, "op", 3, 0, 1, 8);
        Stand.with(LARGEST, "w").refuses(SLOT, "op", 4, 0, 1, 8);
        Stand.with(LARGE).refuses(SLOT, "member", 0, 1, 8);
        Stand.with(LARGE).refuses(SLOT, "step", 0, 2, 8);
        Stand.with(LARGE).refuses(SLOT, "chop", 0, 1, 0, 8);
        Stand.with(LARGE).refuses(SLOT, "start", 111, 2, 8);
        Stand.with("w").recorded(Stand.times(12, "5")).refuses(SLOT, "record", 8);
        Stand.with("w").recorded(Stand.times(12, "5")).refuses(SLOT, "record", -1);
    }

    private static void argumentBeforeRoom() {
        Stand.sentence("Where several fit that a call names, the one named first is thrown");
        Stand.with(LARGEST).refuses(ARGUMENT, "raise", 0, 0, 1);
        Stand.with(LARGEST).refuses(ARGUMENT, "raise", 0, 1000001, 1);
        Stand.with(LARGEST, LARGEST).refuses(ARGUMENT, "op", 8, 0, 1, 2);
        Stand.with(LARGE).refuses(ARGUMENT, "member", 0, 1000001, 1);
        Stand.with(LARGE).refuses(ARGUMENT, "step", 0, 1, 1);
        Stand.with(LARGE).refuses(ARGUMENT, "step", 0, 1000001, 1);
        Stand.with(LARGE).refuses(ARGUMENT, "chop", 0, 1, -1, 1);
        Stand.with(LARGE).refuses(ARGUMENT, "chop", 0, 1, 1001, 1);
        Stand.with(LARGE).refuses(ARGUMENT, "start", 1000000001, 2, 1);
        Stand.with(LARGE).refuses(ARGUMENT, "start", 1000000000, 1, 1);
        Stand.with(LARGE).refuses(ARGUMENT, "fast", 0, 1001, 2000);
        Stand.with(LARGE).refuses(ARGUMENT, "fast", 0, 2, 2001);
    }

    /** All the calls that were refused above are held against it too. */
    private static void nothingChanges() {
        Stand.sentence("a call that throws changes nothing");
        String[] full = Stand.times(12, "w+1");
        Stand.with(LARGEST).recorded(full).refuses(ROOM, "raise", 0, 1, 1);
        Stand.with(LARGEST).recorded(full).refuses(ROOM, "op", 0, 0, 1, 2);
        Stand.with(LARGEST, "w+1").recorded(full).refuses(ROOM, "op", 1, 0, 1, 2);
        Stand.with("w+1", "10").recorded(full).refuses(ROOM, "op", 2, 0, 1, 2);
        Stand.with("10", "7").recorded(full).refuses(ROOM, "op", 2, 0, 1, 2);
        Stand.with(LARGEST).recorded(full).refuses(ROOM, "op", 3, 0, 1, 2);
        Stand.with("w+1", LARGEST).recorded(full).refuses(ROOM, "op", 4, 0, 1, 2);
        Stand.with("w", "w+1").recorded(full).refuses(ARGUMENT, "op", 5, 0, 1, 2);
        Stand.with(LARGE).recorded(full).refuses(ROOM, "member", 0, 1, 1);
        Stand.with(LARGE).recorded(full).refuses(ROOM, "step", 0, 2, 1);
        Stand.with(LARGE).recorded(full).refuses(ROOM, "chop", 0, 1, 0, 1);
        Stand.with().recorded(full).refuses(ROOM, "start", 111, 2, 1);
        Stand.with(LARGE + "+3").recorded(full).refuses(ROOM, "fast", 0, 2, 2000);
        Stand.with().recorded(full).refuses(ROOM, "record", 0);
        Stand.with().recorded(full).refuses(SLOT, "replace", 12, 0);
        Stand.with().recorded(full).refuses(SLOT, "replace", 0, 8);
        Stand.with().recorded(full).refuses(SLOT, "recall", 12, 0);
        Stand.with().recorded(full).refuses(SLOT, "recall", 0, 8);
    }

    private static void nothingChangesInPlace() {
        Stand.with(LARGEST).refuses(ROOM, "raise", 0, 1, 0);
        int[] kinds = {0, 1, 3, 4};
        for (int kind : kinds) {
            Stand.with(LARGEST, "w+1").refuses(ROOM, "op", kind, 0, 1, 0);
            Stand.with(LARGEST, "w+1").refuses(ROOM, "op", kind, 0, 1, 1);
        }
        Stand.with("w+1", "10").refuses(ROOM, "op", 2, 0, 1, 0);
        Stand.with("w+1", "10").refuses(ROOM, "op", 2, 0, 1, 1);
        Stand.with("w", "w+1").refuses(ARGUMENT, "op", 5, 0, 1, 0);
        Stand.with("w", "0").refuses(ARGUMENT, "op", 6, 0, 1, 1);
        Stand.with("w", "0").refuses(ARGUMENT, "op", 7, 0, 1, 0);
        Stand.with(LARGE).refuses(ROOM, "member", 0, 1, 0);
        Stand.with("w+1").refuses(ARGUMENT, "member", 0, 1, 0);
        Stand.with(LARGE).refuses(ROOM, "step", 0, 2, 0);
        Stand.with("0").refuses(ARGUMENT, "step", 0, 2, 0);
        Stand.with(LARGE).refuses(ROOM, "chop", 0, 1, 0, 0);
        Stand.with("w").refuses(ARGUMENT, "chop", 0, 8, 0, 0);
    }
}

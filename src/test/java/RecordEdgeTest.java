import java.util.ArrayList;
import java.util.List;

/** The edges that promises 15 to 19 name, sentence by sentence: none, one, twelve and one more. */
public final class RecordEdgeTest {
    private static final int MOST = 12;

    public static void main(String[] args) {
        record();
        rise();
        riseAtEachPlace();
        replace();
        recall();
        wipe();
        copies();
        Bench.finish();
    }

    /** That many records, each less than the one before it. */
    private static String[] falling(int count) {
        String[] texts = new String[count];
        for (int i = 0; i < count; i++) {
            texts[i] = Integer.toString(50 - i);
        }
        return texts;
    }

    private static List<String> fallingAnd(int count, String last) {
        List<String> texts = new ArrayList<>(List.of(falling(count)));
        texts.add(last);
        return texts;
    }

    private static void record() {
        Stand.sentence("Promise 15: Records a behind what is recorded; answers how many there are");
        for (int count = 0; count < MOST; count++) {
            Stand.with("w+1").recorded(falling(count)).records(count + 1, fallingAnd(count, "w+1"), "record", 0);
        }
        Stand.with("0").recorded().records(1, List.of("0"), "record", 0);
        String largest = Bench.tower(20, 5).toString();
        Stand.with(largest).recorded("1").records(2, List.of("1", largest), "record", 0);
        Stand.sentence("Promise 15: IllegalStateException when there are 12");
        Stand.with("w+1").recorded(falling(MOST)).refuses(Stand.ROOM, "record", 0);
        Stand.with("0").recorded(Stand.times(MOST, "0")).refuses(Stand.ROOM, "record", 0);
    }

    private static void rise(int want, String... records) {
        Stand.with().recorded(records).answers(want, "rise");
    }

    private static void rise() {
        Stand.sentence("Promise 16: The first record (from 1) that is not less than the one before it");
        rise(1, "5", "5");
        rise(1, "0", "0");
        rise(1, "5", "6");
        rise(1, "w", "w+1");
        rise(1, "w^w", "w^w");
        rise(2, "w", "5", "5", "5");
        rise(2, "w", "5", "6", "7");
        rise(1, "w", "w", "5", "w");
        rise(3, "w^w", "w*2", "w", "w");
        Stand.sentence("Promise 16: NONE when all are");
        rise(-1);
        rise(-1, "5");
        rise(-1, "0");
        rise(-1, "5", "4");
        rise(-1, "w+1", "w", "1000000", "0");
        rise(-1, falling(MOST));
    }

    private static void riseAtEachPlace() {
        Stand.sentence("Promise 16: The first record (from 1) that is not less than the one before it");
        for (int place = 1; place < MOST; place++) {
            String[] records = falling(MOST);
            records[place] = records[place - 1];
            rise(place, records);
        }
    }

    private static void replace() {
        Stand.sentence("Promise 17: Record i (from 0, here and below) becomes a");
        Stand.with("w+1").recorded("5").records(0, List.of("w+1"), "replace", 0, 0);
        Stand.with("w+1").recorded("5", "4", "3").records(0, List.of("w+1", "4", "3"), "replace", 0, 0);
        Stand.with("w+1").recorded("5", "4", "3").records(0, List.of("5", "4", "w+1"), "replace", 2, 0);
        Stand.with("w+1").recorded(falling(MOST)).records(0, fallingAnd(MOST - 1, "w+1"), "replace", MOST - 1, 0);
        Stand.sentence("Promise 17: IndexOutOfBoundsException also when there is none");
        refusesOutside("replace");
    }

    private static void recall() {
        Stand.sentence("Promise 18: A slot becomes record i");
        Stand.with("w+1").recorded("5").makes(0, "5", "recall", 0, 0);
        Stand.with("w+1").recorded("5", "4", "3").makes(0, "5", "recall", 0, 0);
        Stand.with("w+1").recorded("5", "4", "3").makes(0, "3", "recall", 2, 0);
        Stand.with("w+1").recorded(falling(MOST)).makes(0, "39", "recall", MOST - 1, 0);
        Stand.with("w+1").recorded("0").makes(0, "0", "recall", 0, 0);
        Stand.sentence("Promise 18: IndexOutOfBoundsException also when there is none");
        refusesOutside("recall");
    }

    private static void refusesOutside(String name) {
        int[] counts = {0, 1, 3, MOST - 1, MOST};
        for (int count : counts) {
            int[] outside = {-1, count, count + 1, Integer.MIN_VALUE, Integer.MAX_VALUE};
            for (int i : outside) {
                Stand.with("w+1").recorded(falling(count)).refuses(Stand.SLOT, name, i, 0);
            }
        }
    }

    private static void wipe() {
        Stand.sentence("Promise 19: Nothing is recorded any more; answers how many there were");
        for (int count = 0; count <= MOST; count++) {
            Stand.with("w+1").recorded(falling(count)).records(count, List.of(), "wipe");
        }
        OrdinalDesk desk = new OrdinalDesk();
        for (int i = 0; i < MOST; i++) {
            desk.record(0);
        }
        Stand.due("wipe of twelve", desk.wipe(), MOST);
        Stand.due("wipe behind wipe", desk.wipe(), 0);
        Stand.due("rise behind wipe", desk.rise(), -1);
        Stand.due("recall behind wipe", Calls.outcome(desk, "recall", 0, 0), Stand.SLOT);
        Stand.due("replace behind wipe", Calls.outcome(desk, "replace", 0, 0), Stand.SLOT);
        for (int i = 0; i < MOST; i++) {
            Stand.due("record behind wipe", desk.record(0), i + 1);
        }
        Stand.due("record behind twelve more", Calls.outcome(desk, "record", 0), Stand.ROOM);
    }

    /** A record and a slot that were the same once go their own ways. */
    private static void copies() {
        OrdinalDesk desk = new OrdinalDesk();
        desk.finite(5, 0);
        desk.record(0);
        desk.finite(6, 0);
        desk.recall(0, 1);
        Stand.due("a record when its slot has changed", desk.at(1, 2), 5);
        desk.replace(0, 0);
        Stand.due("a slot when its record has changed", desk.at(1, 2), 5);
        desk.finite(7, 0);
        desk.recall(0, 2);
        Stand.due("a replaced record when its slot has changed", desk.at(2, 2), 6);
        desk.finite(8, 2);
        desk.recall(0, 3);
        Stand.due("a record when the slot it went to has changed", desk.at(3, 2), 6);
    }
}

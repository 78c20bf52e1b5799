/**
 * "An object is used for at most 512 calls after it has been made": each call of the face, as the
 * 512th of its object, still answers as due. What later calls answer is free, so none is made.
 */
public final class LongUseTest {
    private static final int MOST_CALLS = Bench.MOST_CALLS;

    private static final String[] NAMES = {"finite", "raise", "op", "member", "step", "chop", "start",
        "compare", "kind", "size", "at", "value", "fast", "record", "rise", "replace", "recall", "wipe"};
    /** Beside each name, arguments that are fine once slots 0 and 1 have limits, and wrong ones. */
    private static final int[][] FINE = {{4, 2}, {1, 3, 0}, {1, 0, 1, 2}, {0, 3, 4}, {1, 2, 5},
        {0, 0, 2, 6}, {6, 2, 1}, {0, 1}, {4}, {5}, {6, 2}, {1, 3}, {1, 1, 2000}, {0}, {}, {0, 1},
        {0, 7}, {}};
    private static final int[][] WRONG = {{-1, 2}, {1, 0, 0}, {8, 0, 1, 2}, {0, -1, 4}, {1, 1, 5},
        {0, -1, 2, 6}, {1000000000, 2, 1}, {0, 8}, {8}, {-1}, {8, 2}, {1, 1001}, {1, 1, 2001}, {8},
        {}, {12, 1}, {0, 8}, {}};

    public static void main(String[] args) {
        for (int last = 0; last < NAMES.length; last++) {
            manyCalls(last, FINE[last]);
            manyCalls(last, WRONG[last]);
        }
        twelveAtTheEnd();
        Bench.finish();
    }

    private static void manyCalls(int last, int[] lastArguments) {
        Twin twin = new Twin();
        for (int i = 1; i < MOST_CALLS; i++) {
            int which = (i * 7) % NAMES.length;
            int[] arguments = i % 5 == 0 ? WRONG[which] : FINE[which];
            twin.call("call " + i, NAMES[which], arguments);
        }
        twin.call("call " + MOST_CALLS, NAMES[last], lastArguments);
    }

    /** Records that were made and wiped over and over leave room for twelve. */
    private static void twelveAtTheEnd() {
        OrdinalDesk desk = new OrdinalDesk();
        for (int i = 0; i < (MOST_CALLS - 12) / 2; i++) {
            desk.record(0);
            desk.wipe();
        }
        for (int i = 1; i <= 12; i++) {
            Bench.due("record " + i + " of the last ones", desk.record(0), i);
        }
    }
}

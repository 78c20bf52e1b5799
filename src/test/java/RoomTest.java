import com.sun.management.ThreadMXBean;
import java.lang.management.ManagementFactory;

/** All calls of a run live in one room: a desk makes its rows once, and calls use them again. */
public final class RoomTest {
    /** Far below 7.3 million elements, even if each were a byte. */
    private static final long MOST_BYTES_OF_DESK = 100000;
    private static final int ROUNDS = 80;
    /** Below what the rounds make if each makes one object, which takes 16 bytes at least. */
    private static final long MOST_BYTES_OF_ROUNDS = 600;
    /** The rounds' share of 600,000 objects at 16 bytes each, less than 7.3 million elements take. */
    private static final long MOST_BYTES_WITH_EXCEPTIONS = 600000L * 16 * ROUNDS / Bench.MOST_CALLS;
    private static final int KINDS = 8;
    private static final int FINE_CALLS = 10;
    private static final int REFUSED_CALLS = 4;

    public static void main(String[] args) {
        if (ManagementFactory.getThreadMXBean() instanceof ThreadMXBean threads) {
            newDesk(threads);
            for (int which = 0; which < KINDS + FINE_CALLS; which++) {
                rounds(threads, which, MOST_BYTES_OF_ROUNDS);
            }
            for (int which = 0; which < REFUSED_CALLS; which++) {
                rounds(threads, KINDS + FINE_CALLS + which, MOST_BYTES_WITH_EXCEPTIONS);
            }
        }
        Bench.finish();
    }

    private static long madeUpToNow(ThreadMXBean threads) {
        return threads.getThreadAllocatedBytes(Thread.currentThread().getId());
    }

    private static void newDesk(ThreadMXBean threads) {
        Bench.due("a new desk's size", new OrdinalDesk().size(0), 0);
        long before = madeUpToNow(threads);
        int size = new OrdinalDesk().size(0);
        long made = madeUpToNow(threads) - before;
        Bench.due("another new desk's size", size, 0);
        Bench.due("a new desk made " + made + " bytes, too many", made > MOST_BYTES_OF_DESK, false);
    }

    private static void rounds(ThreadMXBean threads, int which, long most) {
        Bench bench = new Bench();
        bench.load(0, "w^(w+2)*3+w^w*2+w^3*2+w*2+5");
        bench.load(1, "w^3+w^2*2+w+3");
        bench.load(2, "w^2*3+w+1");
        bench.load(3, "w^5");
        bench.load(4, "3");
        // The first round may have the machine make something of its own.
        round(bench.desk, which);
        long before = madeUpToNow(threads);
        for (int i = 1; i < ROUNDS; i++) {
            round(bench.desk, which);
        }
        long made = madeUpToNow(threads) - before;
        Bench.due("rounds of " + which + " made " + made + " bytes, too many", made > most, false);
    }

    /** Five calls at most, so that all rounds stay within the calls of one object. */
    private static void round(OrdinalDesk desk, int which) {
        if (which < KINDS) {
            desk.op(which, 2, which == 2 || which == 5 ? 4 : 1, 5);
        } else if (which < KINDS + FINE_CALLS) {
            fineCall(desk, which - KINDS);
        } else {
            refused(desk, which - KINDS - FINE_CALLS);
        }
    }

    private static void fineCall(OrdinalDesk desk, int which) {
        switch (which) {
            case 0 -> desk.fast(0, 1, 2000);
            case 1 -> desk.fast(1, 3, 2000);
            case 2 -> desk.member(3, 5, 5);
            case 3 -> desk.step(3, 3, 5);
            case 4 -> desk.chop(0, 0, 3, 5);
            case 5 -> desk.start(1000, 3, 5);
            case 6 -> desk.raise(1, 3, 5);
            case 7 -> desk.value(0, 2);
            case 8 -> desk.compare(0, 1);
            default -> useRecords(desk);
        }
    }

    private static void useRecords(OrdinalDesk desk) {
        desk.record(0);
        desk.replace(0, 1);
        desk.recall(0, 5);
        desk.rise();
        desk.wipe();
    }

    private static void refused(OrdinalDesk desk, int which) {
        try {
            refusedCall(desk, which);
            Bench.due("call " + which + " is refused", false, true);
        } catch (IllegalStateException noRoom) {
            // What was made before counts as well, so it goes on.
            return;
        }
    }

    private static void refusedCall(OrdinalDesk desk, int which) {
        switch (which) {
            case 0 -> desk.op(1, 0, 0, 5);
            case 1 -> desk.op(2, 0, 4, 5);
            case 2 -> desk.op(4, 0, 1, 5);
            default -> desk.start(1000000000, 3, 5);
        }
    }
}

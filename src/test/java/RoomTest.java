import java.lang.management.ManagementFactory;

/** All calls of a run live in one room: the dearest ones must not make objects over and over. */
public final class RoomTest {
    /** Of 600,000 objects at sixteen bytes each, which is less than 7.3 million elements take. */
    private static final long MOST_BYTES = 600000L * 16;
    private static final int MOST_CALLS = 512;

    public static void main(String[] args) {
        if (ManagementFactory.getThreadMXBean() instanceof com.sun.management.ThreadMXBean threads) {
            for (int round = 0; round < 9; round++) {
                long before = threads.getThreadAllocatedBytes(Thread.currentThread().getId());
                run(round);
                long made = threads.getThreadAllocatedBytes(Thread.currentThread().getId()) - before;
                Bench.due("run " + round + " made " + made + " bytes, too many", made > MOST_BYTES, false);
            }
        }
        Bench.finish();
    }

    private static void run(int round) {
        Bench bench = new Bench();
        bench.load(0, "w^(w+2)*3+w^w*2+w^3*2+w*2+5");
        bench.load(1, "w^3+w^2*2+w+3");
        bench.load(2, "w^2*3+w+1");
        bench.load(3, "2000");
        for (int call = bench.calls; call < MOST_CALLS; call++) {
            try {
                dearCall(bench.desk, round);
            } catch (IllegalStateException noRoom) {
                // What is made before there is no room for more counts as well.
                continue;
            }
        }
    }

    private static int dearCall(OrdinalDesk desk, int round) {
        switch (round) {
            case 0: return desk.fast(0, 1, 2000);
            case 1: return desk.fast(3, 1, 2000);
            case 2: return desk.fast(1, 3, 2000);
            case 3: return desk.op(4, 1, 2, 4);
            case 4: return desk.op(2, 2, 3, 4);
            case 5: return desk.op(6, 0, 2, 4);
            case 6: return desk.step(0, 3, 4);
            case 7: return desk.chop(0, 0, 3, 4);
            default: return desk.start(1000000000, 3, 4);
        }
    }
}

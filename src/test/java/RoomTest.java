import java.lang.management.ManagementFactory;

/** How much the dearest runs make: the room for all of a run's objects holds 7.3 million fields and elements. */
public final class RoomTest {
    private static final long CELL = 4;
    private static int wrong = 0;

    public static void main(String[] args) {
        // The first run loads classes, which is not the run's own.
        oneObject();
        due("an object used for 512 calls", made(RoomTest::oneObject), 400_000);
        due("170 objects used for 3 calls each", made(RoomTest::manyObjects), 4_500_000);
        due("512 objects made", made(RoomTest::onlyMade), 700_000);
        if (wrong != 0) {
            System.exit(1);
        }
        System.out.println("all runs keep to their room");
    }

    private static void due(String what, long cells, long most) {
        if (cells > most) {
            wrong++;
            System.out.println(what + " made " + cells + " cells, at most " + most + " are due");
        }
    }

    private static long made(Runnable run) {
        com.sun.management.ThreadMXBean bean = (com.sun.management.ThreadMXBean) ManagementFactory.getThreadMXBean();
        bean.getCurrentThreadAllocatedBytes();
        long before = bean.getCurrentThreadAllocatedBytes();
        run.run();
        return (bean.getCurrentThreadAllocatedBytes() - before) / CELL;
    }

    /** 16 rounds of 32 calls: the rows grow from round to round. */
    private static void oneObject() {
        BitSolver x = new BitSolver();
        for (int round = 0; round < 16; round++) {
            x.clear();
            x.word(Math.min(12, 1 + round));
            for (int i = 1; i < 22; i++) {
                x.act(i % 15, i / 2, i - 1);
            }
            x.claim(x.act(15, 3, 4));
            x.assume(22);
            x.models();
            x.cores();
            x.values(5);
            x.size(5, 0);
            x.great();
            x.without(0, true);
        }
    }

    private static void manyObjects() {
        for (int i = 0; i < 170; i++) {
            BitSolver x = new BitSolver();
            x.word(12);
            x.great();
        }
    }

    private static void onlyMade() {
        for (int i = 0; i < 512; i++) {
            new BitSolver();
        }
    }
}

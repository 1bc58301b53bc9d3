import java.lang.management.ManagementFactory;

/** All calls of one run live in one room, so the dearest ones may not make anything. */
final class RoomTest {
    private static final int CALLS = 512;
    private static final long MOST_BYTES = 500_000;

    private RoomTest() {
    }

    static void run() {
        Check.promise("room");
        com.sun.management.ThreadMXBean threads =
            (com.sun.management.ThreadMXBean) ManagementFactory.getThreadMXBean();
        if (!threads.isThreadAllocatedMemorySupported()) {
            return;
        }
        dearCalls();
        long before = threads.getCurrentThreadAllocatedBytes();
        dearCalls();
        long made = threads.getCurrentThreadAllocatedBytes() - before;
        Check.holds("one object and its calls took " + made + " bytes", made <= MOST_BYTES);
    }

    private static void dearCalls() {
        BribedClerks x = new BribedClerks();
        int calls = 0;
        for (int list = 0; list < 6; list++) {
            for (int i = 0; i < 40; i++) {
                x.add(list, (i * 7 + list * 11) % 60, 1 + (i * 37 + list * 101) % 999);
                calls++;
            }
            x.weight(list, 9);
            x.type("want 4".charAt(list));
            calls += 2;
        }
        x.want(10);
        calls++;
        for (; calls < CALLS; calls += 10) {
            x.keep();
            x.restore();
            x.cheapest();
            x.begin(calls % 3, true);
            x.step(240);
            x.reading(11);
            x.trial(1, true, 2);
            x.undo();
            x.perform();
            x.wanted(9);
        }
    }
}

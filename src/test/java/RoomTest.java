/** All 512 calls of a run fit into the room of a run, and answer as before near its end. */
final class RoomTest {
    private RoomTest() {
    }

    static void run() {
        Check.begin("RoomTest");
        com.sun.management.ThreadMXBean room = (com.sun.management.ThreadMXBean) java.lang.management.ManagementFactory.getThreadMXBean();
        long me = Thread.currentThread().getId();
        manyCalls();
        long before = room.getThreadAllocatedBytes(me);
        int jobs = manyCalls();
        long used = room.getThreadAllocatedBytes(me) - before;
        Check.due("jobs after many calls", 40, () -> jobs);
        // The room of a run is 7.3 million elements; the class makes its rows once and needs far less.
        Check.due("512 calls need under a million bytes, used " + used, true, () -> used < 1_000_000);
    }

    private static int manyCalls() {
        LeftistSpooler x = new LeftistSpooler();
        for (int i = 0; i < 34; i++) {
            x.submit(i % 2, i % 2, 99 - i, 9);
        }
        for (int i = 0; i < 59; i++) {
            x.isConsistent();
            x.writeHeap(0);
            x.mergeQueues(i % 2, 1 - i % 2);
            x.changePriority(i % 40, i);
            x.undo();
            x.saveState();
            x.restoreState();
            x.runScript();
        }
        return x.jobCount();
    }
}

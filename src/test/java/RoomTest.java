import java.lang.management.ManagementFactory;

/** The room: an object and the dearest 512 calls on it stay far below 7.3 million fields and elements. */
public final class RoomTest {
    private static final int CALLS = 512;
    private static final long MOST_BYTES_OF_OBJECT = 60_000;
    private static final long MOST_BYTES_OF_CALLS = 400_000;

    interface Step {
        void take(PacketScheduler x, int call);
    }

    public static void main(String[] args) {
        PacketScheduler warm = busy();
        long made = allocated();
        PacketScheduler x = new PacketScheduler();
        made = allocated() - made;
        within("a new object", made, MOST_BYTES_OF_OBJECT);
        Check.due("a new object has no flows", x.flowCount(), warm.flowCount() - 6);
        measure("weightFor", (y, call) -> y.weightFor(99, 300));
        measure("forecast", (y, call) -> y.forecast(99, 1000));
        measure("run", (y, call) -> y.run(500));
        measure("worst", (y, call) -> y.worst());
        measure("saveSnapshot", (y, call) -> y.saveSnapshot());
        measure("setWeight", (y, call) -> y.setWeight(0, 1 + call % 16));
        measure("format", (y, call) -> y.format(call % 100));
        measure("query", (y, call) -> Check.query(y, "many 1=1 or 1<2   "));
        Check.end("RoomTest");
    }

    private static PacketScheduler busy() {
        PacketScheduler x = Check.loaded(Check.times("flow 1 60000 retries 9;", 6) + "rule port 0 50 to 1;"
                + "link 9000; delay 50; timeout 3;");
        for (int i = 0; i < 100; i++) {
            x.arrive(0, 0, i, 500);
        }
        return x;
    }

    private static void measure(String name, Step step) {
        PacketScheduler x = busy();
        step.take(x, 0);
        long before = allocated();
        for (int call = 0; call < CALLS; call++) {
            step.take(x, call);
        }
        within(CALLS + " calls of " + name, allocated() - before, MOST_BYTES_OF_CALLS);
    }

    private static void within(String what, long bytes, long most) {
        System.out.println(what + ": " + bytes + " bytes");
        Check.due(what + " takes at most " + most + " bytes", bytes <= most, true);
    }

    private static long allocated() {
        com.sun.management.ThreadMXBean threads =
                (com.sun.management.ThreadMXBean) ManagementFactory.getThreadMXBean();
        return threads.getThreadAllocatedBytes(Thread.currentThread().getId());
    }
}

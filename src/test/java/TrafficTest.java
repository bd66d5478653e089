/** Promises 7 to 10 and 12 to 23: packets, transmissions, ticks, virtual times and weights. */
public final class TrafficTest {
    private static final int NONE = PacketScheduler.NONE;
    private static final long SCALE = 720720;

    public static void main(String[] args) {
        counts();
        missing();
        arriveRefuses();
        arriveErrors();
        queues();
        sending();
        creditGrows();
        fairOrder();
        lossAndLateNumbers();
        retriesAndDrops();
        lateDeliveryFromQueue();
        lateDeliveryOfDropped();
        duplicateWhileOutstanding();
        acknowledgedBeforeTimeout();
        severalLostInOneTick();
        bursts();
        weights();
        mostPackets();
        mostTransmissions();
        runRefuses();
        Check.end("TrafficTest");
    }

    private static void flowIs(PacketScheduler x, int flow, int... fromSeven) {
        for (int i = 0; i < fromSeven.length; i++) {
            Check.due("flow(" + flow + ", " + (7 + i) + ")", x.flow(flow, 7 + i), fromSeven[i]);
        }
    }

    private static void packetIs(PacketScheduler x, int packet, int... properties) {
        for (int i = 0; i < properties.length; i++) {
            Check.due("packet(" + packet + ", " + i + ")", x.packet(packet, i), properties[i]);
        }
    }

    private static void transmissionIs(PacketScheduler x, int transmission, int... properties) {
        for (int i = 0; i < properties.length; i++) {
            Check.due("transmission(" + transmission + ", " + i + ")", x.transmission(transmission, i),
                    properties[i]);
        }
    }

    private static void counts() {
        PacketScheduler x = Check.loaded("flow 4 60000; flow 5 60000; rule port 1 1 to 1; link 500;");
        Check.due("flowCount", x.flowCount(), 2);
        Check.due("ruleCount", x.ruleCount(), 1);
        x.arrive(1, 2, 3, 300);
        x.arrive(1, 2, 1, 300);
        Check.due("packetCount", x.packetCount(), 2);
        Check.due("transmissionCount", x.transmissionCount(), 0);
        x.run(1);
        Check.due("transmissionCount", x.transmissionCount(), 1);
        Check.due("clock", x.clock(), 1);
        Check.due("credit", x.credit(), 200);
        x.run(1);
        Check.due("transmissionCount", x.transmissionCount(), 2);
        Check.due("clock", x.clock(), 2);
        Check.due("credit is 0 if all queues are empty", x.credit(), 0);
    }

    private static void missing() {
        PacketScheduler x = Check.loaded("flow 4 60000;");
        x.arrive(0, 0, 0, 1);
        x.run(1);
        int[] wrong = {-1, 1, 2, Integer.MIN_VALUE, Integer.MAX_VALUE};
        for (int no : wrong) {
            Check.missing("flow " + no, () -> x.flow(no, 0));
            Check.missing("virtualTime " + no, () -> x.virtualTime(no));
            Check.missing("isIdle " + no, () -> x.isIdle(no));
            Check.missing("queued " + no, () -> x.queued(no, 0));
            Check.missing("packet " + no, () -> x.packet(no, 0));
            Check.missing("transmission " + no, () -> x.transmission(no, 0));
            Check.missing("charge " + no, () -> x.charge(no));
            Check.missing("outstanding " + no, () -> x.outstanding(no));
            Check.missing("setWeight " + no, () -> x.setWeight(no, 1));
            Check.missing("setWeight, the flow is checked first, " + no, () -> x.setWeight(no, 0));
        }
        int[] wrongWhat = {-1, 16, Integer.MIN_VALUE, Integer.MAX_VALUE};
        for (int what : wrongWhat) {
            Check.missing("flow(0, " + what + ")", () -> x.flow(0, what));
        }
        Check.missing("packet(0, -1)", () -> x.packet(0, -1));
        Check.missing("packet(0, 9)", () -> x.packet(0, 9));
        Check.missing("transmission(0, -1)", () -> x.transmission(0, -1));
        Check.missing("transmission(0, 5)", () -> x.transmission(0, 5));
        Check.missing("queued(0, -1)", () -> x.queued(0, -1));
        Check.due("queued(0, the greatest)", x.queued(0, Integer.MAX_VALUE), NONE);
        Check.due("flow(0, 15)", x.flow(0, 15), 0);
        Check.due("packet(0, 8)", x.packet(0, 8), 0);
        Check.due("transmission(0, 4)", x.transmission(0, 4), 1);
    }

    private static void arriveRefuses() {
        PacketScheduler x = new PacketScheduler();
        int[] wrong = {-1, 256, Integer.MIN_VALUE, Integer.MAX_VALUE};
        for (int no : wrong) {
            Check.refused("source " + no, () -> x.arrive(no, 0, 0, 1));
            Check.refused("target " + no, () -> x.arrive(0, no, 0, 1));
            Check.refused("port " + no, () -> x.arrive(0, 0, no, 1));
        }
        int[] sizes = {0, -1, 1501, Integer.MIN_VALUE, Integer.MAX_VALUE};
        for (int size : sizes) {
            Check.refused("size " + size, () -> x.arrive(0, 0, 0, size));
        }
        Check.due("undoCount", x.undoCount(), 0);
        Check.due("no flows", x.arrive(255, 255, 255, 1500), -2);
        Check.due("undoCount", x.undoCount(), 0);
    }

    private static void arriveErrors() {
        PacketScheduler x = Check.loaded("flow 1 1000; flow 1 60000; rule port 1 1 to 1;");
        Check.due("to the limit", x.arrive(0, 0, 0, 1000), 0);
        Check.due("beyond the limit", x.arrive(0, 0, 0, 1), -4);
        Check.due("packetCount", x.packetCount(), 1);
        Check.due("undoCount", x.undoCount(), 1);
        x.run(1);
        Check.due("bytes in flight are not in the queue", x.arrive(0, 0, 0, 1000), 1);
        for (int i = 2; i < 100; i++) {
            Check.due("arrive", x.arrive(0, 0, 1, 1), i);
        }
        Check.due("100 packets, checked before the limit", x.arrive(0, 0, 0, 1500), -3);
        Check.due("100 packets", x.arrive(0, 0, 1, 1), -3);
        Check.due("packetCount", x.packetCount(), 100);
    }

    private static void queues() {
        PacketScheduler x = Check.loaded("flow 1 60000; flow 1 60000; rule source 9 9 to 1;");
        Check.due("nextFlow", x.nextFlow(), NONE);
        x.arrive(9, 8, 7, 10);
        Check.due("nextFlow", x.nextFlow(), 1);
        x.arrive(1, 2, 3, 20);
        x.arrive(1, 3, 5, 30);
        Check.due("nextFlow, on a tie the lowest", x.nextFlow(), 0);
        Check.due("queued(0, 0)", x.queued(0, 0), 1);
        Check.due("queued(0, 1)", x.queued(0, 1), 2);
        Check.due("queued(0, 2)", x.queued(0, 2), NONE);
        Check.due("queued(1, 0)", x.queued(1, 0), 0);
        flowIs(x, 0, 2, 50, 0, 0, 0, 0, 0, 0, 0);
        flowIs(x, 1, 1, 10, 0, 0, 0, 0, 0, 0, 0);
        packetIs(x, 0, 1, 10, 0, 0, 0, NONE, 9, 8, 7);
        packetIs(x, 2, 0, 30, 0, 0, 0, NONE, 1, 3, 5);
        Check.due("isIdle", x.isIdle(0), false);
        Check.due("outstanding", x.outstanding(0), 0);
    }

    private static void sending() {
        PacketScheduler x = Check.loaded("flow 3 60000; link 100; delay 4; timeout 9;");
        x.run(7);
        x.arrive(1, 2, 3, 100);
        x.arrive(1, 2, 3, 90);
        Check.due("run", x.run(1), 0);
        packetIs(x, 0, 0, 100, 7, 1, 1, NONE, 1, 2, 3);
        packetIs(x, 1, 0, 90, 7, 0, 0, NONE);
        transmissionIs(x, 0, 0, 7, 11, 0, 1);
        Check.due("charge", x.charge(0), 100 * SCALE / 3);
        Check.due("virtualTime", x.virtualTime(0), 100 * SCALE / 3);
        Check.due("outstanding", x.outstanding(0), 1);
        flowIs(x, 0, 1, 90, 1, 0);
        Check.due("run", x.run(3), 0);
        Check.due("credit", x.credit(), 0);
        Check.due("outstanding", x.outstanding(0), 2);
        Check.due("not idle while one is outstanding", x.isIdle(0), false);
        Check.due("the queue is empty", x.flow(0, 7), 0);
        Check.due("delivered in the tick at 11", x.run(1), 1);
        packetIs(x, 0, 0, 100, 7, 2, 1, 11);
        transmissionIs(x, 0, 0, 7, 11, 1, 1);
        Check.due("delivered in the tick at 12", x.run(500), 1);
        packetIs(x, 1, 0, 90, 7, 2, 1, 12);
        Check.due("idle", x.isIdle(0), true);
        Check.due("clock", x.clock(), 512);
        Check.due("the charges stay", x.virtualTime(0), 190 * SCALE / 3);
        flowIs(x, 0, 0, 0, 2, 190, 0, 0, 0, 0, 0);
    }

    private static void creditGrows() {
        PacketScheduler x = Check.loaded("flow 1 60000; link 100; delay 1;");
        x.arrive(0, 0, 0, 250);
        x.run(2);
        Check.due("credit", x.credit(), 200);
        Check.due("transmissionCount", x.transmissionCount(), 0);
        x.arrive(0, 0, 0, 51);
        x.run(1);
        Check.due("the first one is sent", x.transmissionCount(), 1);
        Check.due("credit", x.credit(), 50);
        x.run(1);
        Check.due("the second one too", x.transmissionCount(), 2);
        Check.due("the credit becomes 0", x.credit(), 0);

        PacketScheduler y = Check.loaded("flow 1 60000 retries 9 loss 2; link 9000; delay 1; timeout 1;");
        for (int i = 0; i < 100; i++) {
            y.arrive(0, 0, 0, 100);
        }
        y.run(1);
        Check.due("90 of them are sent in the first tick", y.transmissionCount(), 90);
        Check.due("credit", y.credit(), 0);
    }

    private static void fairOrder() {
        PacketScheduler x = Check.loaded("flow 1 60000; flow 2 60000; rule port 1 1 to 1; link 100; delay 1;");
        for (int i = 0; i < 6; i++) {
            x.arrive(0, 0, 0, 100);
            x.arrive(0, 0, 1, 100);
        }
        x.run(6);
        // Virtual times in units of 100 * SCALE / 2: the lower one is served, on a tie flow 0.
        int[] order = {0, 1, 1, 0, 1, 1};
        for (int i = 0; i < order.length; i++) {
            Check.due("flow of transmission " + i, x.packet(x.transmission(i, 0), 0), order[i]);
        }
        Check.due("virtualTime(0)", x.virtualTime(0), 200 * SCALE);
        Check.due("virtualTime(1)", x.virtualTime(1), 200 * SCALE);
        Check.due("nextFlow", x.nextFlow(), 0);

        PacketScheduler y = Check.loaded("flow 1 60000; flow 1 60000; rule port 1 1 to 1; link 100;");
        y.arrive(0, 0, 0, 200);
        y.arrive(0, 0, 1, 50);
        y.run(1);
        Check.due("a smaller packet of another flow does not pass", y.transmissionCount(), 0);
        Check.due("credit", y.credit(), 100);
    }

    private static void lossAndLateNumbers() {
        PacketScheduler x = Check.loaded("flow 1 60000 loss 4 late 2 30 retries 0; delay 3; timeout 200; link 9000;");
        for (int i = 0; i < 6; i++) {
            x.arrive(0, 0, 0, 1);
        }
        x.run(1);
        int[] ticks = {3, 33, 3, NONE, 3, 33};
        for (int i = 0; i < ticks.length; i++) {
            Check.due("acknowledgment of " + i, x.transmission(i, 2), ticks[i]);
        }
        PacketScheduler y = Check.loaded("flow 1 60000; flow 1 60000 loss 2; rule port 1 1 to 1; link 9000;");
        for (int i = 0; i < 3; i++) {
            y.arrive(0, 0, 0, 1);
            y.arrive(0, 0, 1, 1);
        }
        y.run(1);
        int lost = 0;
        for (int i = 0; i < 6; i++) {
            boolean second = y.packet(y.transmission(i, 0), 0) == 1 && y.transmission(i, 0) == 3;
            Check.due("each flow counts its own, " + i, y.transmission(i, 2), second ? NONE : 2);
            lost += second ? 1 : 0;
        }
        Check.due("one is lost", lost, 1);
    }

    private static void retriesAndDrops() {
        PacketScheduler x = Check.loaded("flow 1 60000 retries 2 late 2 99; delay 50; timeout 3; link 1000;");
        x.arrive(0, 0, 0, 10);
        x.run(3);
        Check.due("outstanding", x.outstanding(0), 1);
        Check.due("virtualTime", x.virtualTime(0), 10 * SCALE);
        x.run(1);
        // Declared lost at 3, refunded, queued and sent again in the same tick.
        transmissionIs(x, 0, 0, 0, 50, 2, 0);
        transmissionIs(x, 1, 0, 3, 152, 0, 1);
        packetIs(x, 0, 0, 10, 0, 1, 2, NONE);
        Check.due("virtualTime", x.virtualTime(0), 10 * SCALE);
        flowIs(x, 0, 0, 0, 2, 0, 1, 0, 0, 0, 0);
        x.run(3);
        transmissionIs(x, 2, 0, 6, 56, 0, 1);
        x.run(2);
        packetIs(x, 0, 0, 10, 0, 1, 3, NONE);
        x.run(1);
        packetIs(x, 0, 0, 10, 0, 3, 3, NONE);
        flowIs(x, 0, 0, 0, 3, 0, 3, 0, 0, 1, 0);
        Check.due("refunded", x.virtualTime(0), 0);
        Check.due("idle", x.isIdle(0), true);
        Check.due("credit", x.credit(), 0);

        PacketScheduler y = Check.loaded("flow 1 60000 retries 0 loss 2; timeout 1; delay 50;");
        y.arrive(0, 0, 0, 10);
        y.run(2);
        packetIs(y, 0, 0, 10, 0, 3, 1, NONE);
        Check.due("no retries: dropped", y.flow(0, 14), 1);
    }

    private static void lateDeliveryFromQueue() {
        PacketScheduler x = Check.loaded("flow 2 60000; link 100; delay 4; timeout 3;");
        x.arrive(0, 0, 0, 100);
        x.arrive(0, 0, 0, 1000);
        x.arrive(0, 0, 0, 50);
        x.run(4);
        // Packet 0 is lost at 3 and goes to the head; the credit of 300 is enough to send it at once.
        Check.due("transmissionCount", x.transmissionCount(), 2);
        transmissionIs(x, 1, 0, 3, 7, 0, 1);
        Check.due("credit", x.credit(), 200);
        Check.due("delivered at 4 by the first one", x.run(1), 1);
        packetIs(x, 0, 0, 100, 0, 2, 2, 4);
        transmissionIs(x, 0, 0, 0, 4, 3, 1);
        flowIs(x, 0, 2, 1050, 2, 100, 1, 0, 1, 0, 0);
        Check.due("both are charged now", x.virtualTime(0), 2 * 100 * SCALE / 2);
        x.run(2);
        // The second one is declared lost at 6: refunded; the delivered packet is not queued again.
        transmissionIs(x, 1, 0, 3, 7, 2, 0);
        flowIs(x, 0, 2, 1050, 2, 100, 2, 0, 1, 0, 0);
        x.run(1);
        transmissionIs(x, 1, 0, 3, 7, 3, 0);
        flowIs(x, 0, 2, 1050, 2, 100, 2, 1, 1, 0, 0);
        Check.due("a duplicate that is not charged is not refunded again", x.virtualTime(0), 100 * SCALE / 2);

        PacketScheduler y = Check.loaded("flow 1 60000; link 40; delay 4; timeout 3;");
        y.arrive(0, 0, 0, 100);
        y.run(6);
        // Sent at 2, lost at 5; the credit of 40 is not enough to send it again.
        packetIs(y, 0, 0, 100, 0, 0, 1, NONE);
        Check.due("queued at the head", y.queued(0, 0), 0);
        Check.due("refunded", y.virtualTime(0), 0);
        y.arrive(0, 0, 0, 1000);
        Check.due("delivered late at 6", y.run(1), 1);
        packetIs(y, 0, 0, 100, 0, 2, 1, 6);
        flowIs(y, 0, 1, 1000, 1, 100, 1, 0, 1, 0, 0);
        Check.due("it has left the queue", y.queued(0, 0), 1);
        Check.due("charged again", y.virtualTime(0), 100 * SCALE);
        Check.due("credit", y.credit(), 80);
        fromTheMiddle();
    }

    /** Flow 1, far behind in its virtual time, keeps three packets of flow 0 waiting. */
    private static void fromTheMiddle() {
        PacketScheduler x = Check.loaded("flow 1 60000 late 2 6; flow 16 60000 burst 20000; rule port 1 1 to 1;"
                + "link 100; delay 1; timeout 3;");
        x.arrive(0, 0, 0, 100);
        x.arrive(0, 0, 0, 20);
        x.arrive(0, 0, 0, 20);
        x.arrive(0, 0, 0, 60);
        Check.due("0 and 2 are delivered", x.run(4), 2);
        for (int i = 0; i < 10; i++) {
            x.arrive(0, 0, 1, 100);
        }
        Check.due("forgiven", x.virtualTime(1), 0);
        x.run(1);
        x.arrive(0, 0, 0, 7);
        Check.due("1 and 3 are late, lost at 4", x.flow(0, 11), 2);
        int[] queue = {3, 1, 14, NONE};
        for (int i = 0; i < queue.length; i++) {
            Check.due("queued(0, " + i + ")", x.queued(0, i), queue[i]);
        }
        Check.due("refunded", x.virtualTime(0), 120 * SCALE);
        x.run(3);
        Check.due("1 and 3, and one of flow 1, are delivered at 8", x.run(1), 3);
        packetIs(x, 1, 0, 20, 0, 2, 1, 8);
        packetIs(x, 3, 0, 60, 0, 2, 1, 8);
        Check.due("only the last one waits", x.queued(0, 0), 14);
        Check.due("only the last one waits", x.queued(0, 1), NONE);
        flowIs(x, 0, 1, 7, 4, 200, 2, 0, 2, 0, 0);
        Check.due("charged again", x.virtualTime(0), 200 * SCALE);
        x.arrive(0, 0, 0, 8);
        Check.due("the next one comes behind it", x.queued(0, 1), 15);
    }

    private static void lateDeliveryOfDropped() {
        PacketScheduler x = Check.loaded("flow 4 60000 retries 0; delay 7; timeout 2;");
        x.arrive(0, 0, 0, 80);
        x.run(3);
        Check.due("dropped", x.packet(0, 3), 3);
        Check.due("dropped now", x.flow(0, 14), 1);
        Check.due("virtualTime", x.virtualTime(0), 0);
        Check.due("idle", x.isIdle(0), true);
        Check.due("delivered late", x.run(5), 1);
        packetIs(x, 0, 0, 80, 0, 2, 1, 7);
        transmissionIs(x, 0, 0, 0, 7, 3, 1);
        flowIs(x, 0, 0, 0, 1, 80, 1, 0, 1, 0, 0);
        Check.due("charged again", x.virtualTime(0), 80 * SCALE / 4);
    }

    private static void duplicateWhileOutstanding() {
        PacketScheduler x = Check.loaded("flow 4 60000 late 3 9; delay 7; timeout 5;");
        x.arrive(0, 0, 0, 80);
        x.run(6);
        Check.due("sent again at 5", x.transmission(1, 1), 5);
        Check.due("delivered at 7 by the first one", x.run(2), 1);
        Check.due("both charged", x.virtualTime(0), 2 * 80 * SCALE / 4);
        x.run(3);
        transmissionIs(x, 1, 0, 5, 12, 2, 0);
        Check.due("lost at 10 and refunded", x.virtualTime(0), 80 * SCALE / 4);
        x.run(2);
        transmissionIs(x, 1, 0, 5, 12, 3, 0);
        flowIs(x, 0, 0, 0, 2, 80, 2, 1, 1, 0, 0);

        PacketScheduler y = Check.loaded("flow 4 60000 late 2 2; delay 6; timeout 5;");
        y.arrive(0, 0, 0, 1);
        y.arrive(0, 0, 0, 80);
        y.run(6);
        // Both are lost at 5: 1 is queued before 0; both are sent again as n = 3 and n = 4.
        transmissionIs(y, 1, 1, 0, 8, 2, 0);
        transmissionIs(y, 2, 1, 5, 11, 0, 1);
        transmissionIs(y, 3, 0, 5, 13, 0, 1);
        Check.due("0 is delivered at 6, 1 at 8", y.run(3), 2);
        y.run(1);
        Check.due("clock", y.clock(), 10);
        Check.due("two transmissions are outstanding", y.outstanding(0), 2);
        Check.due("all four are charged", y.virtualTime(0), 2 * 81 * SCALE / 4);
        y.run(1);
        Check.due("lost at 10 and refunded", y.virtualTime(0), 81 * SCALE / 4);

        PacketScheduler z = Check.loaded("flow 2 60000 late 2 5; delay 1; timeout 4;");
        z.arrive(0, 0, 0, 10);
        z.arrive(0, 0, 0, 20);
        z.run(5);
        // 1 was sent at 0 with n = 2, is due at 6, lost at 4, and sent again with n = 3, due at 5.
        transmissionIs(z, 2, 1, 4, 5, 0, 1);
        Check.due("delivered at 5", z.run(1), 1);
        Check.due("virtualTime", z.virtualTime(0), 30 * SCALE / 2);
        z.run(1);
        transmissionIs(z, 1, 1, 0, 6, 3, 0);
        flowIs(z, 0, 0, 0, 3, 30, 1, 1, 0, 0, 0);

        PacketScheduler w = Check.loaded("flow 2 60000 late 2 4; delay 2; timeout 5;");
        w.arrive(0, 0, 0, 10);
        w.arrive(0, 0, 0, 20);
        w.run(6);
        // 1 was sent at 0, due at 6, lost at 5, and sent again with n = 3, due at 7.
        Check.due("delivered late at 6", w.run(1), 1);
        Check.due("charged twice", w.virtualTime(0), 50 * SCALE / 2);
        Check.due("outstanding", w.outstanding(0), 1);
        Check.due("a duplicate delivers nothing", w.run(1), 0);
        transmissionIs(w, 2, 1, 5, 7, 1, 0);
        Check.due("refunded", w.virtualTime(0), 30 * SCALE / 2);
        flowIs(w, 0, 0, 0, 3, 30, 1, 1, 1, 0, 0);
    }

    private static void acknowledgedBeforeTimeout() {
        PacketScheduler x = Check.loaded("flow 1 60000; delay 5; timeout 5;");
        x.arrive(0, 0, 0, 1);
        Check.due("acknowledged in the tick of the timeout", x.run(6), 1);
        flowIs(x, 0, 0, 0, 1, 1, 0, 0, 0, 0, 0);
        transmissionIs(x, 0, 0, 0, 5, 1, 1);
    }

    private static void severalLostInOneTick() {
        PacketScheduler x = Check.loaded("flow 1 60000; delay 50; timeout 4; link 100;");
        x.arrive(0, 0, 0, 20);
        x.arrive(0, 0, 0, 30);
        x.arrive(0, 0, 0, 50);
        x.run(4);
        x.arrive(0, 0, 0, 1000);
        x.arrive(0, 0, 0, 90);
        x.run(1);
        // All are lost at 4 in ascending order, each comes to the head: 2, 1, 0, then 3, 4.
        int[] order = {0, 1, 2, 2, 1, 0};
        for (int i = 0; i < order.length; i++) {
            Check.due("packet of transmission " + i, x.transmission(i, 0), order[i]);
        }
        Check.due("queued", x.queued(0, 0), 3);
        Check.due("queued", x.queued(0, 1), 4);
        Check.due("bytes in the queue", x.flow(0, 8), 1090);

        PacketScheduler y = Check.loaded("flow 1 100; link 100; delay 50; timeout 1;");
        y.arrive(0, 0, 0, 100);
        y.run(1);
        y.arrive(0, 0, 0, 100);
        y.run(1);
        // 0 is lost at 1 and comes back before 1 is sent: no limit holds it up.
        Check.due("0 is sent again first", y.transmission(1, 0), 0);
        y.run(1);
        Check.due("0 once more", y.transmission(2, 0), 0);
        Check.due("the limit holds for arrivals", y.arrive(0, 0, 0, 1), -4);
    }

    private static void bursts() {
        PacketScheduler x = Check.loaded("flow 1 60000; flow 4 60000 burst 100; flow 2 60000 burst 20000;"
                + "rule port 1 1 to 1; rule port 2 2 to 2; link 1000; delay 50; timeout 200;");
        x.arrive(0, 0, 0, 400);
        Check.due("no other flow that is not idle: not raised", x.virtualTime(0), 0);
        x.run(1);
        Check.due("virtualTime(0)", x.virtualTime(0), 400 * SCALE);
        x.arrive(0, 0, 1, 10);
        Check.due("raised to m - burst / weight", x.virtualTime(1), 400 * SCALE - 100 * SCALE / 4);
        Check.due("raised once", x.flow(1, 15), 1);
        x.arrive(0, 0, 1, 10);
        Check.due("not idle any more: not raised", x.flow(1, 15), 1);
        x.arrive(0, 0, 2, 10);
        Check.due("its own is greater: not raised", x.virtualTime(2), 0);
        Check.due("not counted", x.flow(2, 15), 0);
        x.arrive(0, 0, 0, 1);
        Check.due("flow 0 was not idle", x.flow(0, 15), 0);

        PacketScheduler y = Check.loaded("flow 1 60000; flow 1 60000; flow 1 60000; rule port 1 1 to 1;"
                + "rule port 2 2 to 2; delay 50; timeout 200; link 9000;");
        y.arrive(0, 0, 0, 500);
        y.run(1);
        y.arrive(0, 0, 1, 100);
        Check.due("raised without a burst", y.virtualTime(1), 500 * SCALE);
        y.run(1);
        y.arrive(0, 0, 2, 1);
        Check.due("m is the least one of the others", y.virtualTime(2), 500 * SCALE);
        PacketScheduler z = Check.loaded("flow 1 60000; flow 1 60000; rule port 1 1 to 1; delay 1;");
        z.arrive(0, 0, 0, 500);
        z.run(9);
        z.arrive(0, 0, 1, 100);
        Check.due("idle flows do not count", z.virtualTime(1), 0);
        z.arrive(0, 0, 0, 100);
        Check.due("its own is greater", z.virtualTime(0), 500 * SCALE);
        PacketScheduler equal = Check.loaded("flow 1 60000; flow 1 60000; rule port 1 1 to 1; delay 1;");
        equal.arrive(0, 0, 0, 5);
        equal.arrive(0, 0, 1, 5);
        Check.due("an equal one is not raised", equal.flow(1, 15), 0);
    }

    private static void weights() {
        PacketScheduler x = Check.loaded("flow 2 60000; link 100; delay 3;");
        x.arrive(0, 0, 0, 100);
        x.arrive(0, 0, 0, 100);
        x.run(1);
        Check.due("setWeight", x.setWeight(0, 16), 2);
        Check.due("weight", x.flow(0, 0), 16);
        Check.due("the charge stays", x.charge(0), 100 * SCALE / 2);
        Check.due("the virtual time stays", x.virtualTime(0), 100 * SCALE / 2);
        x.run(1);
        Check.due("the new charge", x.charge(1), 100 * SCALE / 16);
        Check.due("setWeight", x.setWeight(0, 1), 16);
        Check.due("the same weight is an operation too", x.setWeight(0, 1), 1);
        Check.due("undoCount", x.undoCount(), 7);
        int[] wrong = {0, 17, -1, Integer.MIN_VALUE, Integer.MAX_VALUE};
        for (int weight : wrong) {
            Check.refused("weight " + weight, () -> x.setWeight(0, weight));
        }
        Check.due("undoCount", x.undoCount(), 7);
        for (int weight = 1; weight <= 16; weight++) {
            PacketScheduler y = Check.loaded("flow 1 60000; link 9000;");
            y.setWeight(0, weight);
            y.arrive(0, 0, 0, 1499);
            y.run(1);
            Check.due("charge at weight " + weight, y.charge(0) * weight, 1499 * SCALE);
        }
    }

    private static void mostPackets() {
        PacketScheduler x = Check.loaded("flow 1 60000; link 9000;");
        for (int i = 0; i < 100; i++) {
            Check.due("arrive", x.arrive(i, 2 * i, 255 - i, 1 + i), i);
        }
        Check.due("the last in the queue", x.queued(0, 99), 99);
        Check.due("bytes", x.flow(0, 8), 5050);
        Check.due("all are delivered", x.run(3), 100);
        Check.due("bytes", x.flow(0, 10), 5050);
        packetIs(x, 99, 0, 100, 0, 2, 1, 2, 99, 198, 156);
        Check.due("delivered packets count too", x.arrive(0, 0, 0, 1), -3);
    }

    private static void mostTransmissions() {
        PacketScheduler x = Check.loaded("flow 1 60000 retries 9; link 9000; delay 50; timeout 1;");
        for (int i = 0; i < 90; i++) {
            x.arrive(0, 0, 0, 100);
        }
        x.run(3);
        Check.due("transmissionCount", x.transmissionCount(), 270);
        Check.due("credit", x.credit(), 0);
        x.run(1);
        Check.due("at most 300", x.transmissionCount(), 300);
        Check.due("60 wait", x.flow(0, 7), 60);
        Check.due("credit", x.credit(), 6000);
        x.run(1);
        Check.due("at most 300", x.transmissionCount(), 300);
        Check.due("all wait", x.flow(0, 7), 90);
        Check.due("credit", x.credit(), 15000);
        x.run(9);
        Check.due("credit", x.credit(), 96000);
        x.run(1);
        Check.due("at most 100000", x.credit(), 100000);
        x.run(1);
        Check.due("at most 100000", x.credit(), 100000);
        Check.due("the late ones are delivered from the queue", x.run(100), 90);
        Check.due("credit", x.credit(), 0);
        Check.due("the queue is empty", x.flow(0, 7), 0);
        Check.due("charged again", x.flow(0, 13), 90);
        Check.due("duplicates", x.flow(0, 12), 210);
        Check.due("nextFlow", x.nextFlow(), NONE);
        x.undo();
        x.run(35);
        // At 51 the second transmissions come: the first 90 were acknowledged at 50.
        Check.due("clock", x.clock(), 51);
        Check.due("queue", x.flow(0, 7), 0);
    }

    private static void runRefuses() {
        PacketScheduler x = Check.loaded("flow 1 60000;");
        int[] wrong = {-1, 501, Integer.MIN_VALUE, Integer.MAX_VALUE};
        for (int ticks : wrong) {
            Check.refused("run(" + ticks + ")", () -> x.run(ticks));
        }
        Check.due("clock", x.clock(), 0);
        Check.due("undoCount", x.undoCount(), 0);
        Check.due("run(0)", x.run(0), 0);
        Check.due("undoCount", x.undoCount(), 1);
        // Only more calls than the document promises answers for come so far; the words are kept to all the same.
        for (int i = 0; i < 2000; i++) {
            x.run(500);
        }
        Check.due("clock", x.clock(), 1000000);
        Check.due("beyond 1000000", x.run(1), -5);
        Check.due("to 1000000", x.run(0), 0);
        Check.due("clock", x.clock(), 1000000);
    }
}

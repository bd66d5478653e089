/** Promises 24 to 30: records, spreads, shares, delays and forecasts. */
public final class MeasureTest {
    private static final int NONE = PacketScheduler.NONE;
    private static final long SCALE = 720720;

    public static void main(String[] args) {
        audits();
        auditRefuses();
        recordsAreKept();
        worstOfAllPairs();
        worstInOneRow();
        spreads();
        shares();
        delays();
        forecasts();
        forecastRefuses();
        weightsFor();
        Check.end("MeasureTest");
    }

    /** Flow 0 (weight 1) and flow 1 (weight 2), ten packets of 100 bytes each, one of them a tick. */
    private static PacketScheduler busy() {
        PacketScheduler x = Check.loaded("flow 1 60000; flow 2 60000; flow 3 60000; rule port 1 1 to 1;"
                + "rule port 2 2 to 2; link 100; delay 1;");
        for (int i = 0; i < 10; i++) {
            x.arrive(0, 0, 0, 100);
            x.arrive(0, 0, 1, 100);
        }
        return x;
    }

    private static void audits() {
        PacketScheduler x = busy();
        Check.due("there is no record", x.audit(0, 1, 0), NONE);
        x.run(1);
        Check.due("a record and itself", x.audit(0, 1, 0), 0);
        Check.due("there is no such record", x.audit(0, 1, 1), NONE);
        x.run(5);
        // Sent: 0 1 1 0 1 1; delivered a tick later: after record k the flows have
        // 0/0, 1/0, 1/1, 1/2, 2/2, 2/3 packets.
        Check.due("audit(0, 1, 0)", x.audit(0, 1, 0), 0);
        Check.due("audit(0, 1, 1)", x.audit(0, 1, 1), 100 * SCALE / 2);
        Check.due("audit(1, 0, 1)", x.audit(1, 0, 1), 100 * SCALE / 2);
        Check.due("audit(0, 1, 2)", x.audit(0, 1, 2), 100 * SCALE - 100 * SCALE / 2);
        Check.due("audit(0, 1, 3)", x.audit(0, 1, 3), 0);
        Check.due("audit(0, 1, 4)", x.audit(0, 1, 4), 300 * SCALE / 2 - 100 * SCALE);
        Check.due("audit(0, 1, 5)", x.audit(0, 1, 5), 200 * SCALE - 300 * SCALE / 2);
        Check.due("audit(0, 1, 6)", x.audit(0, 1, 6), NONE);
        Check.due("flow 2 is idle", x.audit(0, 2, 0), NONE);
        Check.due("flow 2 is idle", x.audit(2, 1, 3), NONE);
        x.setWeight(1, 4);
        Check.due("the weights as they are now", x.audit(0, 1, 5), 200 * SCALE - 300 * SCALE / 4);
        x.arrive(0, 0, 2, 100);
        Check.due("the records stay", x.audit(0, 2, 0), NONE);
        x.run(1);
        Check.due("flow 2 is busy in the latest one", x.audit(0, 2, 0), 0);
        Check.due("but not in the one before", x.audit(0, 2, 1), NONE);
        Check.due("an audit is no operation", x.undoCount(), 10);
    }

    private static void auditRefuses() {
        PacketScheduler x = busy();
        x.run(3);
        int[] wrong = {-1, 3, Integer.MIN_VALUE, Integer.MAX_VALUE};
        for (int flow : wrong) {
            Check.missing("audit(" + flow + ", 0, 0)", () -> x.audit(flow, 0, 0));
            Check.missing("audit(0, " + flow + ", 0)", () -> x.audit(0, flow, 0));
            Check.missing("checked first", () -> x.audit(flow, flow, -1));
        }
        Check.refused("both flows are the same", () -> x.audit(1, 1, 0));
        Check.refused("age -1", () -> x.audit(0, 1, -1));
        Check.refused("the least age", () -> x.audit(0, 1, Integer.MIN_VALUE));
        Check.due("the greatest age", x.audit(0, 1, Integer.MAX_VALUE), NONE);
    }

    private static void recordsAreKept() {
        PacketScheduler x = Check.loaded("flow 1 60000; flow 1 60000; rule port 1 1 to 1; link 1;");
        x.arrive(0, 0, 0, 1500);
        x.arrive(0, 0, 1, 1500);
        x.run(127);
        Check.due("127 records", x.audit(0, 1, 126), 0);
        Check.due("127 records", x.audit(0, 1, 127), NONE);
        x.run(1);
        Check.due("128 records", x.audit(0, 1, 127), 0);
        x.run(1);
        Check.due("128 records", x.audit(0, 1, 127), 0);
        Check.due("128 records", x.audit(0, 1, 128), NONE);
        x.run(500);
        Check.due("128 records", x.audit(0, 1, 127), 0);
        Check.due("128 records", x.audit(0, 1, 128), NONE);

        PacketScheduler y = Check.loaded("flow 1 60000; flow 1 60000; rule port 1 1 to 1; link 10; delay 1;");
        y.arrive(0, 0, 0, 10);
        y.arrive(0, 0, 0, 10);
        y.arrive(0, 0, 0, 1500);
        y.arrive(0, 0, 0, 1500);
        y.run(1);
        y.arrive(0, 0, 1, 1500);
        y.arrive(0, 0, 1, 1500);
        y.run(2);
        // 0 is delivered at 1; 1 is sent at 1, before flow 1 (its virtual time is as great), and delivered at 2.
        Check.due("worst", y.worst(), 10 * SCALE);
        y.run(126);
        Check.due("the difference is still among the latest", y.worst(), 10 * SCALE);
        Check.due("it is from the oldest one", y.audit(0, 1, 127), 10 * SCALE);
        y.run(1);
        Check.due("it is gone", y.worst(), 0);
        y.undo();
        Check.due("undoing restores the records", y.worst(), 10 * SCALE);
        y.run(128);
        Check.due("128 newer records", y.audit(0, 1, 127) >= 0, true);
    }

    private static void worstOfAllPairs() {
        PacketScheduler x = busy();
        Check.due("no records", x.worst(), 0);
        x.run(6);
        // The lead of flow 0, in halves of 100 * SCALE: 0, 2, 1, 0, 2, 1.
        Check.due("worst", x.worst(), 100 * SCALE);
        x.setWeight(0, 2);
        // With equal weights: 0, 1, 0, -1, 0, -1 halves.
        Check.due("with the weights as they are now", x.worst(), 100 * SCALE);
        x.setWeight(0, 16);
        x.setWeight(1, 16);
        Check.due("with the weights as they are now", x.worst(), 2 * 100 * SCALE / 16);
        x.setWeight(1, 1);
        Check.due("with the weights as they are now", x.worst(), 300 * SCALE - 100 * SCALE / 16);
        x.undo();
        Check.due("undone", x.worst(), 2 * 100 * SCALE / 16);
        PacketScheduler y = Check.loaded("flow 1 60000;");
        y.arrive(0, 0, 0, 1);
        y.run(5);
        Check.due("one flow has no pair", y.worst(), 0);
    }

    /** What was delivered while one of the flows was idle does not count. */
    private static void worstInOneRow() {
        PacketScheduler x = Check.loaded("flow 1 60000; flow 1 60000; rule port 1 1 to 1; link 100; delay 1;");
        x.arrive(0, 0, 0, 100);
        x.arrive(0, 0, 0, 100);
        x.arrive(0, 0, 0, 100);
        x.arrive(0, 0, 0, 100);
        x.run(3);
        Check.due("flow 1 is idle", x.worst(), 0);
        x.arrive(0, 0, 1, 50);
        Check.due("raised", x.virtualTime(1), 300 * SCALE);
        x.run(1);
        // Packet 3 is sent at 3; both are busy in the record of 3 alone so far, with 300 and 0 bytes.
        Check.due("one record that counts", x.audit(0, 1, 0), 0);
        Check.due("the one before does not count", x.audit(0, 1, 1), NONE);
        Check.due("worst", x.worst(), 0);
        x.arrive(0, 0, 0, 1000);
        x.run(1);
        Check.due("worst", x.worst(), 100 * SCALE);
        x.run(1);
        Check.due("flow 1 is idle again", x.isIdle(1), true);
        Check.due("audit", x.audit(0, 1, 0), NONE);
        Check.due("the earlier row counts all the same", x.worst(), 100 * SCALE);
    }

    private static void spreads() {
        PacketScheduler x = Check.loaded("flow 1 60000; flow 2 60000 burst 20000; flow 3 60000 burst 20000;"
                + "rule port 1 1 to 1; rule port 2 2 to 2; link 600; delay 1;");
        Check.due("none", x.spread(), 0);
        x.arrive(0, 0, 0, 600);
        Check.due("one", x.spread(), 0);
        x.run(1);
        Check.due("one", x.spread(), 0);
        x.arrive(0, 0, 1, 600);
        Check.due("two", x.spread(), 600 * SCALE);
        x.arrive(0, 0, 2, 300);
        x.run(1);
        // Flow 0 is idle now with 600; flow 1 is at 300, flow 2 at 0.
        Check.due("the idle one does not count", x.spread(), 300 * SCALE);
        Check.due("flow 0 is idle", x.isIdle(0), true);
        x.run(3);
        Check.due("none", x.spread(), 0);
    }

    private static void shares() {
        PacketScheduler x = Check.loaded("flow 1 60000; flow 2 60000; rule port 1 1 to 1; link 9000;");
        Check.due("none", x.share(0), 0.0);
        x.arrive(0, 0, 0, 700);
        x.arrive(0, 0, 1, 1400);
        x.run(2);
        Check.due("nothing is delivered", x.share(1), 0.0);
        x.run(1);
        Check.due("share(0)", x.share(0), 700.0 / 2100.0);
        Check.due("share(1)", x.share(1), 1400.0 / 2100.0);
        PacketScheduler y = Check.loaded("flow 1 60000; flow 1 60000;");
        y.arrive(0, 0, 0, 3);
        y.run(9);
        Check.due("all", y.share(0), 1.0);
        Check.due("nothing", y.share(1), 0.0);
        int[] wrong = {-1, 2, Integer.MIN_VALUE, Integer.MAX_VALUE};
        for (int flow : wrong) {
            Check.missing("share(" + flow + ")", () -> y.share(flow));
            Check.missing("meanDelay(" + flow + ")", () -> y.meanDelay(flow));
        }
    }

    private static void delays() {
        PacketScheduler x = Check.loaded("flow 1 60000; flow 1 60000; link 100; delay 2;");
        Check.due("none", x.meanDelay(0), 0.0f);
        x.run(3);
        x.arrive(0, 0, 0, 100);
        x.arrive(0, 0, 0, 100);
        x.arrive(0, 0, 0, 200);
        x.run(2);
        Check.due("none is delivered", x.meanDelay(0), 0.0f);
        x.run(1);
        Check.due("one", x.meanDelay(0), 2.0f);
        x.run(1);
        Check.due("two", x.meanDelay(0), 2.5f);
        x.run(2);
        // Sent at 3, 4 and 6, delivered at 5, 6 and 8; they arrived at 3.
        Check.due("three", x.meanDelay(0), 10.0f / 3.0f);
        Check.due("the other flow", x.meanDelay(1), 0.0f);
    }

    private static void forecasts() {
        PacketScheduler x = Check.loaded("flow 1 60000; link 100; delay 3; timeout 5;");
        x.arrive(0, 0, 0, 100);
        x.arrive(0, 0, 0, 250);
        Check.due("sent at 0, delivered at 3", x.forecast(0, 1000), 4);
        Check.due("sent at 3, delivered at 6", x.forecast(1, 1000), 7);
        Check.due("just in time", x.forecast(1, 7), 7);
        Check.due("just too late", x.forecast(1, 6), NONE);
        Check.due("limit 0", x.forecast(1, 0), NONE);
        Check.due("nothing changed", x.clock(), 0);
        Check.due("nothing changed", x.transmissionCount(), 0);
        Check.due("nothing changed", x.undoCount(), 2);
        x.run(4);
        Check.due("delivered", x.forecast(0, 0), 0);
        Check.due("three more", x.forecast(1, 1000), 3);
        PacketScheduler y = Check.loaded("flow 1 60000 retries 0 loss 2; delay 50;");
        y.arrive(0, 0, 0, 1);
        y.arrive(0, 0, 0, 1);
        Check.due("late, after it was dropped", y.forecast(0, 1000), 51);
        Check.due("never", y.forecast(1, 1000), NONE);
        PacketScheduler z = Check.loaded("flow 1 60000; link 1; delay 1;");
        z.arrive(0, 0, 0, 998);
        z.arrive(0, 0, 0, 1);
        Check.due("sent at 997, delivered at 998", z.forecast(0, 1000), 999);
        Check.due("sent at 998, delivered at 999", z.forecast(1, 1000), 1000);
        z.arrive(0, 0, 0, 1);
        Check.due("one tick too late", z.forecast(2, 1000), NONE);
    }

    private static void forecastRefuses() {
        PacketScheduler x = Check.loaded("flow 1 60000;");
        x.arrive(0, 0, 0, 1);
        int[] wrong = {-1, 1, 100, Integer.MIN_VALUE, Integer.MAX_VALUE};
        for (int packet : wrong) {
            Check.missing("forecast(" + packet + ", 1)", () -> x.forecast(packet, 1));
            Check.missing("checked first", () -> x.forecast(packet, -1));
            Check.missing("weightFor(" + packet + ", 1)", () -> x.weightFor(packet, 1));
            Check.missing("checked first", () -> x.weightFor(packet, 301));
        }
        int[] limits = {-1, 1001, Integer.MIN_VALUE, Integer.MAX_VALUE};
        for (int limit : limits) {
            Check.refused("forecast(0, " + limit + ")", () -> x.forecast(0, limit));
            Check.refused("weightFor(0, " + limit + ")", () -> x.weightFor(0, limit));
        }
        Check.refused("weightFor(0, 301)", () -> x.weightFor(0, 301));
        Check.due("forecast(0, 1000)", x.forecast(0, 1000), 3);
        Check.due("weightFor(0, 300)", x.weightFor(0, 300), 1);
    }

    private static void weightsFor() {
        PacketScheduler x = Check.loaded("flow 1 60000; flow 4 60000; rule port 1 1 to 1; link 100; delay 1;");
        for (int i = 0; i < 4; i++) {
            x.arrive(0, 0, 0, 100);
        }
        for (int i = 0; i < 8; i++) {
            x.arrive(0, 0, 1, 100);
        }
        // Flow 1 costs 25 a packet. At weight w flow 0 costs 100 / w; its second packet (number 1) is sent
        // behind all packets of flow 1 that come before 100 / w, and is delivered two ticks after the one before.
        Check.due("after 0, 1 1 1 1", x.forecast(1, 1000), 7);
        Check.due("with its own weight", x.weightFor(1, 7), 1);
        // At 2: after 0 and the two at 0 and 25; on the tie at 50 flow 0 is first.
        Check.due("weight 2", x.weightFor(1, 6), 2);
        Check.due("weight 2", x.weightFor(1, 5), 2);
        // At 3: 33.3 is above 25 still; at 4: 25 is a tie.
        Check.due("weight 4", x.weightFor(1, 4), 4);
        Check.due("never so soon", x.weightFor(1, 3), NONE);
        Check.due("never in 0 ticks", x.weightFor(1, 0), NONE);
        Check.due("nothing changed", x.flow(0, 0), 1);
        Check.due("nothing changed", x.clock(), 0);
        Check.due("the first one", x.weightFor(0, 2), 1);
        x.run(2);
        Check.due("a delivered packet", x.weightFor(0, 0), 1);
        PacketScheduler most = Check.loaded("flow 1 60000; flow 16 60000; rule port 1 1 to 1; link 100; delay 1;");
        for (int i = 0; i < 6; i++) {
            most.arrive(0, 0, i % 2, 100);
        }
        // Packet 2 comes third only if its flow is not behind flow 1 then.
        Check.due("only the greatest weight", most.weightFor(2, 4), 16);
        PacketScheduler y = Check.loaded("flow 9 60000; link 1; delay 1;");
        y.arrive(0, 0, 0, 299);
        Check.due("at the greatest limit", y.weightFor(0, 300), 1);
        y.undo();
        y.arrive(0, 0, 0, 300);
        Check.due("beyond the greatest limit", y.weightFor(0, 300), NONE);
    }
}

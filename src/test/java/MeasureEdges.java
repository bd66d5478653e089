/** Promises 24 to 32 at their boundaries: records, spreads, shares, delays, forecasts and formatted texts. */
final class MeasureEdges {
    private static final int NONE = PacketScheduler.NONE;
    private static final long SCALE = 720720;
    private static final int[] FAR = {-1, Integer.MIN_VALUE, Integer.MAX_VALUE, 1 << 30};

    private MeasureEdges() {
    }

    static void all() {
        records();
        audit();
        worst();
        spread();
        share();
        meanDelay();
        forecast();
        weightFor();
        format();
    }

    private static void packets(PacketScheduler x, int number, int port, int size) {
        for (int i = 0; i < number; i++) {
            x.arrive(0, 0, port, size);
        }
    }

    /** Flows 0 and 1, of the weights 1 and 2, wait with ten packets of 100 bytes each; one is sent in a tick. */
    private static PacketScheduler two() {
        PacketScheduler x = Check.loaded("flow 1 60000; flow 2 60000; flow 3 60000; rule port 1 1 to 1;"
                + "rule port 2 2 to 2; link 100; delay 1;");
        packets(x, 10, 0, 100);
        packets(x, 10, 1, 100);
        return x;
    }

    /** Both flows wait for 750 ticks; four bytes of flow 0 are delivered in the tick at 3, and nothing else. */
    private static PacketScheduler waiting() {
        PacketScheduler x = Check.loaded("flow 1 60000; flow 1 60000; rule port 1 1 to 1; link 2; delay 2;");
        x.arrive(0, 0, 0, 4);
        x.arrive(0, 0, 0, 1500);
        x.arrive(0, 0, 1, 1500);
        return x;
    }

    private static void records() {
        Edge.of(24, "At the end of each tick, the delivered bytes of each flow and the flows that are not idle are"
                + " recorded;",
                () -> {
            PacketScheduler x = Check.loaded("flow 1 60000; flow 1 60000; rule port 1 1 to 1; link 30; delay 1;");
            x.arrive(0, 0, 0, 10);
            x.arrive(0, 0, 1, 10);
            Check.due("no tick, no record", x.audit(0, 1, 0), NONE);
            x.run(1);
            Check.due("not idle: both are outstanding at the end of the tick", x.audit(0, 1, 0), 0);
            x.run(1);
            Check.due("idle: both were acknowledged in the tick", x.audit(0, 1, 0), NONE);
            x.arrive(0, 0, 0, 10);
            Check.due("an arrival is no record", x.audit(0, 1, 0), NONE);
        });
        Edge.of(24, "the latest 128 records are kept.", MeasureEdges::kept);
        Edge.of(24, "For two flows a and b and two records, the earlier one i and the later one j, the difference"
                + " is the"
                + " absolute value of", () -> {
            PacketScheduler x = two();
            x.run(6);
            // Sent 0 1 1 0 1 1, delivered a tick later: 0/0, 1/0, 1/1, 1/2, 2/2 and 2/3 packets at the records.
            long[] differences = {0, 50, 50, 0, 50, 50};
            for (int age = 0; age < 6; age++) {
                Check.due("audit(0, 1, " + age + ")", x.audit(0, 1, age), differences[age] * SCALE);
                Check.due("audit(1, 0, " + age + ")", x.audit(1, 0, age), differences[age] * SCALE);
            }
            x.setWeight(0, 16);
            x.setWeight(1, 1);
            Check.due("the weights as they are now", x.audit(0, 1, 5), 300 * SCALE - 200 * SCALE / 16);
            x.undo();
            x.undo();
            Check.due("the weights before", x.audit(0, 1, 5), 50 * SCALE);
        });
        Edge.of(24, "It counts only if both flows are not idle in all records from i to j.", MeasureEdges::counts);
        Edge.of(24, "The bytes delivered from i to j are those of record j minus those of record i.", () -> {
            PacketScheduler x = waiting();
            x.run(10);
            Check.due("record 3 minus itself and later ones", x.audit(0, 1, 6), 0);
            Check.due("record 3 minus record 2", x.audit(0, 1, 7), 4 * SCALE);
            Check.due("record 0", x.audit(0, 1, 9), 4 * SCALE);
        });
    }

    private static void kept() {
        for (int split : new int[] {0, 1, 100, 127, 128}) {
            PacketScheduler x = waiting();
            x.run(split);
            x.run(127 - Math.min(split, 127));
            int records = Math.max(split, 127);
            Check.due(records + " records: the oldest", x.audit(0, 1, records - 1), 4 * SCALE);
            Check.due(records + " records: one more", x.audit(0, 1, records), NONE);
        }
        PacketScheduler x = waiting();
        x.run(128);
        Check.due("128 records", x.audit(0, 1, 127), 4 * SCALE);
        x.run(3);
        // The oldest one is now that of the tick at 3, in which the four bytes are delivered already.
        Check.due("131 ticks: the oldest record", x.audit(0, 1, 127), 0);
        Check.due("one more", x.audit(0, 1, 128), NONE);
        Check.due("it is gone for worst too", x.worst(), 0);
        x.undo();
        Check.due("undone: it is back", x.audit(0, 1, 127), 4 * SCALE);
        x.run(2);
        Check.due("130 ticks: the oldest is that of the tick at 2", x.audit(0, 1, 127), 4 * SCALE);
        for (int ticks : new int[] {129, 131, 255, 256, 257, 499, 500}) {
            PacketScheduler y = waiting();
            y.run(ticks);
            Check.due(ticks + " ticks at once: the oldest", y.audit(0, 1, 127), ticks > 130 ? 0 : 4 * SCALE);
            Check.due(ticks + " ticks at once: one more", y.audit(0, 1, 128), NONE);
        }
    }

    private static void counts() {
        // Flow 1 is busy in the records of 2 to 5 and of 8 on, flow 0 in all of them.
        PacketScheduler x = Check.loaded("flow 1 60000; flow 1 60000 burst 20000; rule port 1 1 to 1; link 10;"
                + " delay 4;");
        packets(x, 20, 0, 10);
        x.run(2);
        x.arrive(0, 0, 1, 10);
        x.run(4);
        Check.due("at 6 the earliest that counts", x.audit(0, 1, 3) >= 0, true);
        Check.due("at 6 one before it", x.audit(0, 1, 4), NONE);
        x.run(1);
        Check.due("idle in the latest", x.audit(0, 1, 0), NONE);
        Check.due("idle in the latest", x.audit(0, 1, 1), NONE);
        x.run(1);
        x.arrive(0, 0, 1, 10);
        x.run(2);
        Check.due("busy again", x.audit(0, 1, 1) >= 0, true);
        Check.due("idle in the one before", x.audit(0, 1, 2), NONE);
        Check.due("not idle at both ends, but between", x.audit(0, 1, 5), NONE);
        Check.due("the flows in the other order", x.audit(1, 0, 5), NONE);
        PacketScheduler last = Check.loaded(Check.times("flow 1 60000;", 6) + "rule port 1 1 to 5; link 1;");
        last.arrive(0, 0, 1, 100);
        last.run(3);
        for (int flow = 0; flow < 5; flow++) {
            Check.due("only flow 5 is not idle, the other one is " + flow, last.audit(flow, 5, 0), NONE);
        }
        Check.due("the flows in the other order", x.audit(1, 0, 1) >= 0, true);
    }

    private static void audit() {
        Edge.of(24, "Returns the difference of two flows from an earlier record to the latest one.", () -> {
            PacketScheduler x = two();
            x.run(2);
            Check.due("audit(0, 1, 1)", x.audit(0, 1, 1), 100 * SCALE);
            Check.unchanged("audit", x, () -> x.audit(0, 1, 1));
        });
        Edge.of(24, "`age`: how many records the earlier one is before the latest one, from 0", () -> {
            PacketScheduler x = waiting();
            x.run(1);
            Check.due("age 0: a record and itself", x.audit(0, 1, 0), 0);
            Check.due("age 1", x.audit(0, 1, 1), NONE);
            x.run(3);
            Check.due("age 0", x.audit(0, 1, 0), 0);
            Check.due("age 1", x.audit(0, 1, 1), 4 * SCALE);
            Check.due("age 3", x.audit(0, 1, 3), 4 * SCALE);
            Check.due("age 4", x.audit(0, 1, 4), NONE);
            Check.refused("age -1", () -> x.audit(0, 1, -1));
        });
        Edge.of(24, "Returns the difference;", () -> {
            PacketScheduler x = Check.loaded("flow 16 60000; flow 1 60000; rule port 1 1 to 1; link 3000; delay 1;");
            packets(x, 20, 0, 1500);
            packets(x, 5, 1, 1500);
            x.run(6);
            // Two are sent in each tick: the second one of all is of flow 1, the next fifteen are of flow 0.
            Check.due("nine packets at weight 16, one at 1", x.audit(0, 1, 5), 1500 * SCALE - 13500 * SCALE / 16);
            x.setWeight(0, 1);
            Check.due("beyond an int", x.audit(0, 1, 5), 12000 * SCALE);
            Check.due("beyond an int", x.audit(1, 0, 5), 12000 * SCALE);
        });
        Edge.of(24, "NONE if there is no such record or the difference does not count.", () -> {
            PacketScheduler x = two();
            for (int age : new int[] {0, 1, 127, 128, Integer.MAX_VALUE}) {
                Check.due("no records, age " + age, x.audit(0, 1, age), NONE);
            }
            x.run(5);
            for (int age : new int[] {5, 6, 127, 128, 129, Integer.MAX_VALUE}) {
                Check.due("5 records, age " + age, x.audit(0, 1, age), NONE);
            }
            for (int age = 0; age < 5; age++) {
                Check.due("flow 2 is idle, age " + age, x.audit(0, 2, age), NONE);
                Check.due("flow 2 is idle, age " + age, x.audit(2, 1, age), NONE);
            }
        });
        Edge.of(24, "Throws `NoSuchElementException` if there is no such flow (checked first)", () -> {
            PacketScheduler x = two();
            x.run(2);
            for (int flow : new int[] {-1, 3, 6, Integer.MIN_VALUE, Integer.MAX_VALUE}) {
                Check.missing("the one", () -> x.audit(flow, 0, 0));
                Check.missing("the other", () -> x.audit(0, flow, 0));
                Check.missing("both, and they are the same", () -> x.audit(flow, flow, 0));
                Check.missing("the age is negative too", () -> x.audit(flow, 0, -1));
                Check.missing("the age is negative too", () -> x.audit(0, flow, -1));
                Check.unchanged("audit", x, () -> x.audit(0, flow, -1));
            }
            Check.missing("no flows", () -> new PacketScheduler().audit(0, 1, 0));
        });
        Edge.of(24, "Throws `IllegalArgumentException` if both flows are the same or age is negative", () -> {
            PacketScheduler x = two();
            Check.refused("the same without records", () -> x.audit(0, 0, 0));
            x.run(2);
            for (int flow = 0; flow < 3; flow++) {
                int same = flow;
                Check.refused("the same", () -> x.audit(same, same, 0));
                Check.refused("the same and no such record", () -> x.audit(same, same, 500));
            }
            for (int age : new int[] {-1, -2, Integer.MIN_VALUE}) {
                Check.refused("age " + age, () -> x.audit(0, 1, age));
                Check.refused("an idle flow, age " + age, () -> x.audit(0, 2, age));
                Check.unchanged("audit", x, () -> x.audit(0, 1, age));
            }
        });
    }

    private static void worst() {
        Edge.of(25, "Returns the greatest difference that counts, of all pairs of different flows and all pairs of"
                + " records;",
                () -> {
            PacketScheduler x = two();
            x.run(6);
            // The lead of flow 0 over flow 1 at the records, in bytes: 0, 100, 50, 0, 100, 50.
            Check.due("from the lowest to the highest", x.worst(), 100 * SCALE);
            x.setWeight(0, 16);
            x.setWeight(1, 1);
            // 0, 6.25, -93.75, -193.75, -187.5, -287.5: from the second record to the last one.
            Check.due("with other weights", x.worst(), 300 * SCALE - 100 * SCALE / 16);
            Check.due("and not from the first", x.worst() != x.audit(0, 1, 5), true);
            PacketScheduler six = Check.loaded(Check.times("flow 1 60000;", 6) + "rule port 4 4 to 4; rule port 5 5"
                    + " to 5;"
                    + "link 5; delay 2;");
            six.arrive(0, 0, 4, 10);
            six.arrive(0, 0, 4, 1500);
            six.arrive(0, 0, 5, 1500);
            six.run(10);
            Check.due("the last pair of six flows", six.worst(), 10 * SCALE);
            worstRows();
        });
        Edge.of(25, "0 if there is none.", () -> {
            PacketScheduler x = new PacketScheduler();
            Check.due("no flows", x.worst(), 0);
            x.run(5);
            Check.due("no flows, five records", x.worst(), 0);
            Check.load(x, "flow 1 60000;");
            packets(x, 5, 0, 100);
            x.run(9);
            Check.due("one flow", x.worst(), 0);
            PacketScheduler y = two();
            Check.due("no records", y.worst(), 0);
            y.run(1);
            Check.due("one record", y.worst(), 0);
            PacketScheduler idle = Check.loaded("flow 1 60000; flow 1 60000; delay 1;");
            packets(idle, 5, 0, 1000);
            idle.run(20);
            Check.due("the other flow is idle", idle.worst(), 0);
        });
    }

    /** What is delivered while one flow is idle does not count, though it counts in the rows before and behind. */
    private static void worstRows() {
        PacketScheduler x = Check.loaded("flow 1 60000; flow 1 60000 burst 20000; rule port 1 1 to 1; link 10;"
                + " delay 4;");
        packets(x, 40, 0, 10);
        x.run(2);
        x.arrive(0, 0, 1, 10);
        x.run(4);
        // Busy in the records of 2 to 5: flow 0 has 0, 0, 10 and 20 bytes then.
        Check.due("worst", x.worst(), 20 * SCALE);
        x.run(20);
        Check.due("the row has ended", x.worst(), 20 * SCALE);
        x.arrive(0, 0, 1, 10);
        x.run(1);
        Check.due("a new row of one record", x.worst(), 20 * SCALE);
        x.run(3);
        Check.due("a new row, in which flow 0 gets 10 in each tick", x.worst(), 30 * SCALE);
        oldestAndLatest();
    }

    /** The oldest and the latest of 128 records lie side by side where they are kept, but are no row. */
    private static void oldestAndLatest() {
        PacketScheduler x = Check.loaded("flow 1 60000; flow 1 60000; rule port 1 1 to 1; link 10; delay 1;");
        x.arrive(0, 0, 0, 10);
        x.arrive(0, 0, 1, 10);
        x.run(1);
        Check.due("both are busy in the record of 0", x.audit(0, 1, 0), 0);
        x.run(100);
        packets(x, 5, 0, 10);
        x.run(26);
        x.arrive(0, 0, 0, 1500);
        x.arrive(0, 0, 1, 1500);
        x.run(1);
        Check.due("both are busy in the record of 127", x.audit(0, 1, 0), 0);
        Check.due("128 records, of which the first was busy", x.clock(), 128);
        Check.due("they are not compared", x.worst(), 0);
    }

    private static void spread() {
        Edge.of(26, "Returns the greatest virtual time minus the least one, of the flows that are not idle;", () -> {
            PacketScheduler x = Check.loaded(Check.times("flow 1 60000 burst 20000;", 6) + "rule port 0 0 to 5;"
                    + "rule port 1 1 to 4; rule port 2 2 to 0; link 9000; delay 3;");
            packets(x, 4, 0, 1500);
            x.run(1);
            Check.due("one flow", x.spread(), 0);
            x.arrive(0, 0, 1, 100);
            Check.due("two: beyond an int", x.spread(), 6000 * SCALE);
            x.run(1);
            Check.due("two", x.spread(), 5900 * SCALE);
            x.arrive(0, 0, 2, 1);
            Check.due("three: the one between does not matter", x.spread(), 6000 * SCALE);
            x.run(2);
            Check.due("flow 5 is idle now", x.isIdle(5), true);
            Check.due("it does not count any more", x.spread(), 99 * SCALE);
            PacketScheduler first = Check.loaded("flow 1 60000; flow 1 60000 burst 9; rule port 1 1 to 1; delay 50;");
            first.arrive(0, 0, 0, 100);
            first.run(1);
            first.arrive(0, 0, 1, 100);
            Check.due("flow 0 has the greatest", first.spread(), 9 * SCALE);
        });
        Edge.of(26, "0 if there are none.", () -> {
            PacketScheduler x = new PacketScheduler();
            Check.due("no flows", x.spread(), 0);
            Check.load(x, "flow 1 60000; flow 1 60000; rule port 1 1 to 1; delay 1;");
            Check.due("no packets", x.spread(), 0);
            x.arrive(0, 0, 0, 100);
            x.run(2);
            x.arrive(0, 0, 1, 10);
            x.run(2);
            Check.due("virtual times", x.virtualTime(0) - x.virtualTime(1), 90 * SCALE);
            Check.due("all are idle", x.spread(), 0);
        });
    }

    private static void share() {
        Edge.of(27, "Returns the delivered bytes of a flow divided by those of all flows;", () -> {
            PacketScheduler x = Check.loaded("flow 1 60000; flow 1 60000; flow 1 60000; rule port 1 1 to 1; link"
                    + " 9000;");
            x.arrive(0, 0, 0, 1);
            x.arrive(0, 0, 1, 1499);
            x.run(3);
            Check.due("share(0)", x.share(0), 1.0 / 1500.0);
            Check.due("share(1)", x.share(1), 1499.0 / 1500.0);
            Check.due("share(2)", x.share(2), 0.0);
            PacketScheduler all = Check.loaded("flow 1 60000;");
            all.arrive(0, 0, 0, 1);
            all.run(3);
            Check.due("all of one byte", all.share(0), 1.0);
            all.arrive(0, 0, 0, 1500);
            all.run(5);
            Check.due("all of 1501 bytes", all.share(0), 1.0);
        });
        Edge.of(27, "0 if there are none.", () -> {
            PacketScheduler x = Check.loaded("flow 1 60000; flow 1 60000;");
            Check.due("no packets", x.share(0), 0.0);
            x.arrive(0, 0, 0, 1);
            x.run(2);
            Check.due("none is delivered", x.share(0), 0.0);
            Check.due("the other flow", x.share(1), 0.0);
        });
        noSuchFlow(27, "share", PacketScheduler::share);
    }

    private interface OfFlow {
        Object answer(PacketScheduler x, int flow);
    }

    private static void noSuchFlow(int promise, String call, OfFlow body) {
        Edge.of(promise, "Throws `NoSuchElementException` if there is no such flow", () -> {
            for (int flows = 0; flows <= 6; flows += 3) {
                PacketScheduler x = Check.loaded(Check.times("flow 1 1;", flows));
                LookEdges.only(call, x, flows, flow -> body.answer(x, flow));
            }
        });
    }

    private static void meanDelay() {
        Edge.of(28, "Returns the mean of the times from arrival to delivery of the delivered packets of a flow (the"
                + " sum as a float"
                + " divided by the number as a float);", () -> {
            PacketScheduler x = Check.loaded("flow 1 60000; flow 1 60000; rule port 1 1 to 1; link 100; delay 2;");
            x.run(5);
            packets(x, 3, 0, 100);
            x.arrive(0, 0, 0, 1500);
            x.run(5);
            Check.due("2, 3 and 4: the fourth is not delivered", x.meanDelay(0), 3.0f);
            Check.due("the other flow", x.meanDelay(1), 0.0f);
            x.run(30);
            // The fourth one is sent at 5 + 3 + 14 and delivered after 19 ticks.
            Check.due("four", x.meanDelay(0), 28.0f / 4.0f);
            PacketScheduler y = Check.loaded("flow 1 60000; link 1; delay 1;");
            y.arrive(0, 0, 0, 1);
            y.arrive(0, 0, 0, 1);
            y.arrive(0, 0, 0, 2);
            y.run(9);
            Check.due("no whole number", y.meanDelay(0), 7.0f / 3.0f);
        });
        Edge.of(28, "0 if there are none.", () -> {
            PacketScheduler x = Check.loaded("flow 1 60000 retries 0 loss 2;");
            Check.due("no packets", x.meanDelay(0), 0.0f);
            x.arrive(0, 0, 0, 1);
            x.run(2);
            Check.due("none is delivered", x.meanDelay(0), 0.0f);
            x.run(1);
            Check.due("one", x.meanDelay(0), 2.0f);
            x.undo();
            Check.due("undone", x.meanDelay(0), 0.0f);
        });
        noSuchFlow(28, "meanDelay", PacketScheduler::meanDelay);
    }

    private static void forecast() {
        Edge.of(29, "Forecasts on a copy when a packet is delivered.", () -> {
            PacketScheduler x = Check.loaded("flow 1 60000 loss 3 late 2 9; flow 2 60000; rule port 1 1 to 1; link"
                    + " 150;");
            for (int i = 0; i < 20; i++) {
                x.arrive(0, 0, i % 2, 100);
            }
            x.run(3);
            x.saveSnapshot();
            for (int packet = 0; packet < 20; packet++) {
                int there = packet;
                Check.unchanged("forecast", x, () -> x.forecast(there, 1000));
                int ticks = x.forecast(packet, 1000);
                x.run(ticks == NONE ? 500 : Math.max(ticks - 1, 0));
                Check.due("packet " + packet + " a tick before", x.packet(packet, 3) == 2, ticks == 0);
                x.run(ticks == NONE ? 500 : 1);
                Check.due("packet " + packet + " then", x.packet(packet, 3) == 2, ticks != NONE);
                x.restoreSnapshot();
            }
        });
        Edge.of(29, "`limit`: 0 to 1000", () -> {
            PacketScheduler x = Check.loaded("flow 1 60000; link 1; delay 1;");
            x.arrive(0, 0, 0, 999);
            x.arrive(0, 0, 0, 1);
            Check.due("sent at 998, delivered at 999", x.forecast(0, 1000), 1000);
            Check.due("one tick less", x.forecast(0, 999), NONE);
            Check.due("one tick too late", x.forecast(1, 1000), NONE);
            Check.due("limit 0", x.forecast(0, 0), NONE);
            Check.refused("-1", () -> x.forecast(0, -1));
            Check.refused("1001", () -> x.forecast(0, 1001));
        });
        Edge.of(29, "Returns the least number of ticks, 0 to limit, after which it is delivered;", () -> {
            PacketScheduler x = Check.loaded("flow 1 60000; delay 1;");
            x.arrive(0, 0, 0, 1);
            Check.due("two ticks", x.forecast(0, 1000), 2);
            Check.due("just the limit", x.forecast(0, 2), 2);
            Check.due("one less", x.forecast(0, 1), NONE);
            x.run(1);
            Check.due("one tick", x.forecast(0, 1), 1);
            x.run(1);
            Check.due("delivered: 0 of 0", x.forecast(0, 0), 0);
            Check.due("delivered: 0 of 1000", x.forecast(0, 1000), 0);
            PacketScheduler late = Check.loaded("flow 1 60000 retries 0; delay 50; timeout 1;");
            late.arrive(0, 0, 0, 1);
            late.run(2);
            Check.due("dropped and still delivered", late.forecast(0, 49), 49);
        });
        Edge.of(29, "NONE if there is none.", () -> {
            PacketScheduler x = Check.loaded("flow 1 60000 retries 0 loss 2;");
            x.arrive(0, 0, 0, 1);
            x.arrive(0, 0, 0, 1);
            Check.due("never", x.forecast(1, 1000), NONE);
            x.run(500);
            Check.due("never, when it is dropped", x.forecast(1, 1000), NONE);
            PacketScheduler full = Check.loaded("flow 1 60000 retries 9; flow 1 60000; rule port 1 1 to 1; link 9000;"
                    + "delay 50; timeout 1;");
            packets(full, 90, 0, 100);
            full.run(4);
            full.arrive(0, 0, 1, 1);
            Check.due("no transmission is left for it", full.forecast(90, 1000), NONE);
            Check.due("but for late ones", full.forecast(89, 1000), 47);
        });
        Edge.of(29, "Throws `NoSuchElementException` if there is no such packet (checked first)",
                () -> noSuchPacket(1001));
        Edge.of(29, "Throws `IllegalArgumentException` if limit is out of range", () -> {
            PacketScheduler x = Check.loaded("flow 1 60000;");
            x.arrive(0, 0, 0, 1);
            for (int limit : new int[] {-1, 1001, Integer.MIN_VALUE, Integer.MAX_VALUE}) {
                Check.refused("limit " + limit, () -> x.forecast(0, limit));
                Check.unchanged("forecast", x, () -> x.forecast(0, limit));
            }
            x.run(5);
            Check.refused("a delivered packet", () -> x.forecast(0, -1));
        });
    }

    private static void noSuchPacket(int wrongLimit) {
        for (int packets = 0; packets <= 100; packets += 50) {
            PacketScheduler x = Check.loaded("flow 1 60000;");
            packets(x, packets, 0, 1);
            for (int packet : new int[] {-1, packets, 100, 101, Integer.MIN_VALUE, Integer.MAX_VALUE}) {
                for (int limit : new int[] {0, 300, -1, wrongLimit, Integer.MIN_VALUE}) {
                    Check.missing("packet " + packet, () -> wrongLimit > 301 ? x.forecast(packet, limit)
                            : x.weightFor(packet, limit));
                }
            }
        }
    }

    /** Flow 1 (weight 4) pays 25 for each of its packets; with weight w flow 0 pays 100 / w. */
    private static PacketScheduler shared() {
        PacketScheduler x = Check.loaded("flow 1 60000; flow 4 60000; rule port 1 1 to 1; link 100; delay 1;");
        packets(x, 4, 0, 100);
        packets(x, 8, 1, 100);
        return x;
    }

    private static void weightFor() {
        Edge.of(30, "Finds, on copies, the least weight for the flow of a packet with which the packet is delivered"
                + " in time.", () -> {
            PacketScheduler x = shared();
            for (int limit = 0; limit <= 8; limit++) {
                int most = limit;
                Check.unchanged("weightFor", x, () -> x.weightFor(1, most));
            }
            Check.due("the weight stays", x.flow(0, 0), 1);
        });
        Edge.of(30, "`limit`: 0 to 300", () -> {
            PacketScheduler x = Check.loaded("flow 9 60000; link 1; delay 1;");
            x.arrive(0, 0, 0, 299);
            x.arrive(0, 0, 0, 1);
            Check.due("sent at 298, delivered at 299", x.weightFor(0, 300), 1);
            Check.due("one tick too late", x.weightFor(1, 300), NONE);
            Check.due("limit 0", x.weightFor(0, 0), NONE);
            Check.refused("-1", () -> x.weightFor(0, -1));
            Check.refused("301", () -> x.weightFor(0, 301));
        });
        Edge.of(30, "Returns the least weight from 1 to 16 with which, if the flow had it from now on, the packet"
                + " would be"
                + " delivered after at most limit ticks;", MeasureEdges::leastWeights);
        Edge.of(30, "NONE if there is none.", () -> {
            PacketScheduler x = shared();
            Check.due("three ticks are too few for the second", x.weightFor(1, 3), NONE);
            Check.due("none in no tick", x.weightFor(0, 0), NONE);
            PacketScheduler lost = Check.loaded("flow 1 60000 retries 0 loss 2;");
            packets(lost, 2, 0, 1);
            Check.due("never delivered", lost.weightFor(1, 300), NONE);
        });
        Edge.of(30, "Throws `NoSuchElementException` if there is no such packet (checked first)",
                () -> noSuchPacket(301));
        Edge.of(30, "Throws `IllegalArgumentException` if limit is out of range", () -> {
            PacketScheduler x = shared();
            for (int limit : new int[] {-1, 301, 1000, Integer.MIN_VALUE, Integer.MAX_VALUE}) {
                Check.refused("limit " + limit, () -> x.weightFor(0, limit));
                Check.unchanged("weightFor", x, () -> x.weightFor(0, limit));
            }
        });
    }

    private static void leastWeights() {
        PacketScheduler x = shared();
        int[] weights = {NONE, NONE, NONE, NONE, 4, 2, 2, 1, 1};
        for (int limit = 0; limit < weights.length; limit++) {
            Check.due("for the second packet in " + limit, x.weightFor(1, limit), weights[limit]);
        }
        Check.due("the first one needs none", x.weightFor(0, 2), 1);
        x.setWeight(0, 16);
        Check.due("a lower weight than now is enough", x.weightFor(1, 7), 1);
        x.run(2);
        Check.due("a delivered packet", x.weightFor(0, 0), 1);
        PacketScheduler most = Check.loaded("flow 1 60000; flow 16 60000; rule port 1 1 to 1; link 100; delay 1;");
        packets(most, 3, 0, 100);
        packets(most, 3, 1, 100);
        Check.due("only the greatest weight", most.weightFor(1, 4), 16);
        most.setWeight(0, 16);
        Check.due("with it", most.forecast(1, 4), 4);
        most.undo();
        most.setWeight(0, 15);
        Check.due("with one less", most.forecast(1, 4), NONE);
        PacketScheduler now = shared();
        now.run(1);
        // What was sent before keeps its charge of 100: the second one comes behind four of flow 1.
        Check.due("from now on", now.weightFor(1, 5), NONE);
        Check.due("from now on", now.weightFor(1, 6), 1);
    }

    private static void format() {
        Edge.of(31, "Formats a packet as text: 'p', its number, ' f', its flow, ' ', its size, ' ', and then"
                + " 'queued', 'flying',"
                + " 'dropped', or 'at ' and the tick at which it was delivered.", () -> {
            PacketScheduler x = Check.loaded(Check.times("flow 1 60000 retries 0;", 6) + "rule port 5 5 to 5; link"
                    + " 9000;"
                    + "delay 4; timeout 2;");
            x.arrive(0, 0, 5, 1);
            Check.due("queued", Check.formatted(x, 0), "p0 f5 1 queued");
            x.run(1);
            Check.due("flying", Check.formatted(x, 0), "p0 f5 1 flying");
            x.run(2);
            Check.due("dropped", Check.formatted(x, 0), "p0 f5 1 dropped");
            x.run(2);
            Check.due("delivered", Check.formatted(x, 0), "p0 f5 1 at 4");
        });
        Edge.of(31, "Numbers have no leading zeros.", () -> {
            PacketScheduler x = Check.loaded("flow 1 60000; link 9000; delay 1;");
            int[] sizes = {1, 9, 10, 99, 100, 999, 1000, 1500};
            for (int size : sizes) {
                int packet = x.arrive(0, 0, 0, size);
                Check.due("size " + size, Check.formatted(x, packet), "p" + packet + " f0 " + size + " queued");
            }
            packets(x, 92, 0, 1);
            for (int packet : new int[] {9, 10, 11, 98, 99}) {
                Check.due("packet " + packet, Check.formatted(x, packet), "p" + packet + " f0 1 queued");
            }
            for (int tick : new int[] {1, 9, 10, 100, 1000, 9999}) {
                PacketScheduler y = Check.loaded("flow 1 60000; delay 1;");
                for (int left = tick - 1; left > 0; left -= Math.min(left, 500)) {
                    y.run(Math.min(left, 500));
                }
                y.arrive(0, 0, 0, 20);
                y.run(2);
                Check.due("at " + tick, Check.formatted(y, 0), "p0 f0 20 at " + tick);
            }
        });
        Edge.of(31, "Returns the number of bytes of the text.", () -> {
            PacketScheduler x = Check.loaded("flow 1 60000; link 9000; delay 1;");
            packets(x, 100, 0, 100);
            Check.due("p0 f0 100 queued", x.format(0), 16);
            Check.due("p99 f0 100 queued", x.format(99), 17);
            PacketScheduler y = Check.loaded("flow 1 60000; delay 1;");
            y.arrive(0, 0, 0, 1);
            y.run(2);
            Check.due("p0 f0 1 at 1", y.format(0), 12);
        });
        Edge.of(31, "Throws `NoSuchElementException` if there is no such packet", () -> {
            for (int packets = 0; packets <= 100; packets += 50) {
                PacketScheduler x = Check.loaded("flow 1 60000;");
                packets(x, packets, 0, 1);
                if (packets > 0) {
                    x.format(packets - 1);
                }
                for (int packet : FAR) {
                    Check.missing("packet " + packet, () -> x.format(packet));
                    Check.unchanged("format", x, () -> x.format(packet));
                }
                int next = packets;
                Check.missing("packet " + packets, () -> x.format(next));
                Check.unchanged("format", x, () -> x.format(next));
            }
        });
        Edge.of(32, "Returns the byte at index of the text of the most recent call of format, as it was then;", () -> {
            PacketScheduler x = Check.loaded("flow 1 60000; delay 1;");
            packets(x, 2, 0, 12);
            x.format(0);
            x.run(2);
            String text = "p0 f0 12 queued";
            for (int i = 0; i < text.length(); i++) {
                Check.due("as it was then, byte " + i, x.formattedByte(i), (int) text.charAt(i));
            }
            x.undo();
            x.undo();
            x.undo();
            Check.due("the packet is gone", x.packetCount(), 0);
            Check.missing("format(0)", () -> x.format(0));
            Check.due("the text stays", x.formattedByte(14), (int) 'd');
            Check.load(x, "flow 1 60000;");
            Check.due("the text stays", x.formattedByte(14), (int) 'd');
            x.arrive(0, 0, 0, 3);
            x.format(0);
            Check.due("the most recent call", x.formattedByte(6), (int) '3');
        });
        Edge.of(32, "NONE if index is out of range or there was no such call.", () -> {
            PacketScheduler x = Check.loaded("flow 1 60000; delay 1;");
            Check.due("no call", x.formattedByte(0), NONE);
            Check.missing("format(0)", () -> x.format(0));
            Check.due("no call that answered", x.formattedByte(0), NONE);
            x.arrive(0, 0, 0, 1);
            int length = x.format(0);
            Check.due("the last byte", x.formattedByte(length - 1), (int) 'd');
            Check.due("behind it", x.formattedByte(length), NONE);
            for (int index : FAR) {
                Check.due("formattedByte(" + index + ")", x.formattedByte(index), NONE);
            }
            x.run(2);
            Check.due("a shorter text", x.format(0), 12);
            Check.due("nothing of the longer one is left", x.formattedByte(12), NONE);
        });
    }
}

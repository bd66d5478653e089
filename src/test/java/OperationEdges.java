/** Promises 21 to 23 at their boundaries: what the operations take, answer and refuse. */
final class OperationEdges {
    private static final int NONE = PacketScheduler.NONE;
    private static final long SCALE = 720720;

    private OperationEdges() {
    }

    static void all() {
        arrive();
        arriveAnswers();
        raised();
        run();
        setWeight();
        operations();
    }

    private static PacketScheduler one() {
        return Check.loaded("flow 1 60000;");
    }

    private static void arrive() {
        Edge.of(21, "Operation: a packet arrives.", () -> {
            PacketScheduler x = one();
            x.run(3);
            x.arrive(7, 8, 9, 10);
            int[] properties = {0, 10, 3, 0, 0, NONE, 7, 8, 9};
            for (int what = 0; what < properties.length; what++) {
                Check.due("packet(0, " + what + ")", x.packet(0, what), properties[what]);
            }
            Check.due("it is recorded", x.undoCount(), 2);
            Check.due("the clock stays", x.clock(), 3);
            Check.due("nothing is sent", x.transmissionCount(), 0);
        });
        Edge.of(21, "When a packet arrives, it comes to the end of the queue of its flow.", () -> {
            PacketScheduler x = Check.loaded("flow 1 60000; link 10; delay 9; timeout 1;");
            x.arrive(0, 0, 0, 10);
            Check.due("the first of an empty queue", x.queued(0, 0), 0);
            x.arrive(0, 0, 0, 1000);
            Check.due("the second", x.queued(0, 1), 1);
            x.run(1);
            Check.due("the first is sent", x.queued(0, 0), 1);
            x.arrive(0, 0, 0, 1);
            Check.due("a small one does not pass", x.queued(0, 0), 1);
            Check.due("it is the last", x.queued(0, 1), 2);
            x.run(1);
            x.arrive(0, 0, 0, 2);
            Check.due("behind all others", x.queued(0, x.flow(0, 7) - 1), 3);
        });
        PacketScheduler x = one();
        Edge.of(21, "`source`: 0 to 255", () -> {
            Check.due("the least", x.packet(x.arrive(0, 1, 1, 1), 6), 0);
            Check.due("the greatest", x.packet(x.arrive(255, 1, 1, 1), 6), 255);
            Check.refused("-1", () -> x.arrive(-1, 1, 1, 1));
            Check.refused("256", () -> x.arrive(256, 1, 1, 1));
        });
        Edge.of(21, "`target`: 0 to 255", () -> {
            Check.due("the least", x.packet(x.arrive(1, 0, 1, 1), 7), 0);
            Check.due("the greatest", x.packet(x.arrive(1, 255, 1, 1), 7), 255);
            Check.refused("-1", () -> x.arrive(1, -1, 1, 1));
            Check.refused("256", () -> x.arrive(1, 256, 1, 1));
        });
        Edge.of(21, "`port`: 0 to 255", () -> {
            Check.due("the least", x.packet(x.arrive(1, 1, 0, 1), 8), 0);
            Check.due("the greatest", x.packet(x.arrive(1, 1, 255, 1), 8), 255);
            Check.refused("-1", () -> x.arrive(1, 1, -1, 1));
            Check.refused("256", () -> x.arrive(1, 1, 256, 1));
        });
        Edge.of(21, "`size`: 1 to 1500", () -> {
            Check.due("the least", x.packet(x.arrive(1, 1, 1, 1), 1), 1);
            Check.due("the greatest", x.packet(x.arrive(1, 1, 1, 1500), 1), 1500);
            Check.refused("0", () -> x.arrive(1, 1, 1, 0));
            Check.refused("1501", () -> x.arrive(1, 1, 1, 1501));
        });
        Edge.of(21, "Throws `IllegalArgumentException` if a parameter is out of range", OperationEdges::arriveRefuses);
    }

    /** Refused before any answer: without flows, with 100 packets, and where the limit would be exceeded. */
    private static void arriveRefuses() {
        PacketScheduler full = one();
        for (int i = 0; i < 100; i++) {
            full.arrive(0, 0, 0, 1);
        }
        PacketScheduler[] all = {new PacketScheduler(), Check.loaded("flow 1 1;"), full};
        for (PacketScheduler x : all) {
            for (int wrong : new int[] {-1, 256, Integer.MIN_VALUE, Integer.MAX_VALUE}) {
                Check.refused("source " + wrong, () -> x.arrive(wrong, 0, 0, 1500));
                Check.refused("target " + wrong, () -> x.arrive(0, wrong, 0, 1500));
                Check.refused("port " + wrong, () -> x.arrive(0, 0, wrong, 1500));
                Check.unchanged("arrive", x, () -> x.arrive(0, 0, wrong, 1500));
            }
            for (int wrong : new int[] {0, -1, 1501, Integer.MIN_VALUE, Integer.MAX_VALUE}) {
                Check.refused("size " + wrong, () -> x.arrive(0, 0, 0, wrong));
                Check.unchanged("arrive", x, () -> x.arrive(0, 0, 0, wrong));
            }
        }
    }

    private static void arriveAnswers() {
        Edge.of(21, "Returns the number of the packet;", () -> {
            PacketScheduler x = one();
            for (int i = 0; i < 100; i++) {
                Check.due("arrive", x.arrive(0, 0, 0, 1), i);
            }
            x.undo();
            Check.due("the number of one that was undone", x.arrive(0, 0, 0, 2), 99);
        });
        Edge.of(21, "-2 if there are no flows;", () -> {
            PacketScheduler x = new PacketScheduler();
            Check.due("a new object", x.arrive(0, 0, 0, 1), -2);
            Check.unchanged("arrive", x, () -> x.arrive(255, 255, 255, 1500));
            Check.load(x, "flow 1 1;");
            x.load(0);
            Check.due("an empty text", x.arrive(0, 0, 0, 1), -2);
        });
        Edge.of(21, "-3 if there are 100 packets;", () -> {
            PacketScheduler x = one();
            for (int i = 0; i < 99; i++) {
                x.arrive(0, 0, 0, 1);
            }
            Check.due("the hundredth", x.arrive(0, 0, 0, 1), 99);
            Check.due("one more", x.arrive(0, 0, 0, 1), -3);
            Check.unchanged("arrive", x, () -> x.arrive(0, 0, 0, 1));
            x.run(50);
            Check.due("delivered ones count", x.arrive(0, 0, 0, 1), -3);
        });
        Edge.of(21, "-4 if the bytes in the queue of its flow would exceed the limit (checked in this order).",
                OperationEdges::limits);
    }

    private static void limits() {
        PacketScheduler x = Check.loaded("flow 1 10; flow 1 60000; flow 1 1; rule port 1 1 to 1; rule port 2 2 to 2;"
                + "link 4; delay 50; timeout 2;");
        Check.due("11 of 10", x.arrive(0, 0, 0, 11), -4);
        Check.due("4 of 10", x.arrive(0, 0, 0, 4), 0);
        Check.due("11 of 10", x.arrive(0, 0, 0, 7), -4);
        Check.due("just 10", x.arrive(0, 0, 0, 6), 1);
        Check.due("one more", x.arrive(0, 0, 0, 1), -4);
        Check.unchanged("arrive", x, () -> x.arrive(0, 0, 0, 1));
        Check.due("2 of 1", x.arrive(0, 0, 2, 2), -4);
        Check.due("1 of 1", x.arrive(0, 0, 2, 1), 2);
        x.undo();
        x.run(1);
        Check.due("what is in flight is not in the queue", x.arrive(0, 0, 0, 4), 2);
        x.undo();
        x.setWeight(0, 1);
        x.arrive(0, 0, 0, 3);
        x.run(2);
        // At 2 the first one is lost and back: 4 + 6 + 3 bytes, above the limit; it is sent again at once.
        Check.due("bytes", x.flow(0, 8), 9);
        Check.due("2 of 1 left", x.arrive(0, 0, 0, 2), -4);
        Check.due("1 of 1 left", x.arrive(0, 0, 0, 1), 3);
        PacketScheduler most = Check.loaded("flow 1 60000; flow 1 60000; rule port 1 1 to 1;");
        for (int i = 0; i < 40; i++) {
            most.arrive(0, 0, 0, 1500);
        }
        Check.due("60000 bytes", most.flow(0, 8), 60000);
        Check.due("60001", most.arrive(0, 0, 0, 1), -4);
        Check.due("the other flow has its own", most.arrive(0, 0, 1, 1500), 40);
        for (int i = 41; i < 100; i++) {
            most.arrive(0, 0, 1, 1);
        }
        Check.due("-3 comes before -4", most.arrive(0, 0, 0, 1), -3);
        PacketScheduler back = Check.loaded("flow 1 10 retries 9; link 10; delay 50; timeout 1;");
        back.arrive(0, 0, 0, 10);
        back.run(1);
        back.arrive(0, 0, 0, 10);
        back.run(1);
        Check.due("what comes back is not refused", back.transmission(1, 0), 0);
        Check.due("the queue is full", back.arrive(0, 0, 0, 1), -4);
    }

    private static void raised() {
        Edge.of(21, "If the flow was idle before, and there are other flows that are not idle, let m be the least"
                + " virtual time"
                + " of these: the virtual time of the flow becomes the greater one of its own and m - burst * 720720 /"
                + " weight (it is raised if that is greater than its own).", OperationEdges::raises);
        Edge.of(12, "15 how often its virtual time was raised by arrivals", () -> {
            // The burst of one byte at weight 1 is just what flow 0 is ahead, or one 720720th of a byte less.
            PacketScheduler x = Check.loaded("flow 1 60000; flow 1 60000 burst 100; rule port 1 1 to 1; delay 50;"
                    + "timeout 200;");
            x.arrive(0, 0, 0, 100);
            x.run(1);
            x.arrive(0, 0, 1, 1);
            Check.due("an equal one is not raised", x.flow(1, 15), 0);
            x.undo();
            x.undo();
            x.undo();
            x.arrive(0, 0, 0, 101);
            x.run(1);
            x.arrive(0, 0, 1, 1);
            Check.due("raised", x.flow(1, 15), 1);
            Check.due("by one byte", x.virtualTime(1), SCALE);
        });
    }

    private static void raises() {
        String text = "flow 1 60000; flow 4 60000 burst 20; flow 2 60000 burst 20000; rule port 1 1 to 1;"
                + "rule port 2 2 to 2; link 9000; delay 2; timeout 200;";
        PacketScheduler x = Check.loaded(text);
        x.arrive(0, 0, 0, 400);
        Check.due("no other flow", x.virtualTime(0), 0);
        x.run(1);
        x.arrive(0, 0, 1, 10);
        Check.due("m - burst / weight", x.virtualTime(1), 400 * SCALE - 20 * SCALE / 4);
        x.arrive(0, 0, 2, 10);
        Check.due("m is the least of both, the burst is greater", x.virtualTime(2), 0);
        x.run(1);
        x.arrive(0, 0, 1, 10);
        Check.due("not idle: not raised", x.virtualTime(1), 400 * SCALE - 10 * SCALE / 4);
        Check.due("raised once", x.flow(1, 15), 1);
        PacketScheduler idle = Check.loaded(text);
        idle.arrive(0, 0, 0, 400);
        idle.run(3);
        Check.due("flow 0 is idle", idle.isIdle(0), true);
        idle.arrive(0, 0, 1, 10);
        Check.due("no other flow is not idle", idle.virtualTime(1), 0);
        idle.arrive(0, 0, 0, 10);
        Check.due("its own is greater", idle.virtualTime(0), 400 * SCALE);
        Check.due("it is not raised", idle.flow(0, 15), 0);
        PacketScheduler weight = Check.loaded(text);
        weight.arrive(0, 0, 0, 400);
        weight.run(1);
        weight.setWeight(1, 16);
        weight.arrive(0, 0, 1, 10);
        Check.due("the weight as it is now", weight.virtualTime(1), 400 * SCALE - 20 * SCALE / 16);
        PacketScheduler far = Check.loaded("flow 1 60000; flow 1 60000 burst 20000; rule port 1 1 to 1; link 9000;"
                + "delay 50; timeout 200;");
        for (int i = 0; i < 20; i++) {
            far.arrive(0, 0, 0, 1001);
        }
        far.run(3);
        far.arrive(0, 0, 1, 1);
        Check.due("the greatest burst", far.virtualTime(1), 20 * SCALE);
    }

    private static void run() {
        Edge.of(22, "Operation: simulates ticks.", () -> {
            PacketScheduler x = one();
            x.arrive(0, 0, 0, 1000);
            x.arrive(0, 0, 0, 1000);
            x.run(1);
            Check.due("one tick", x.transmissionCount(), 1);
            x.run(1);
            Check.due("another one", x.transmissionCount(), 2);
            Check.due("both are recorded", x.undoCount(), 4);
        });
        Edge.of(22, "`ticks`: 0 to 500", () -> {
            PacketScheduler x = one();
            x.arrive(0, 0, 0, 1);
            Check.due("run(0)", x.run(0), 0);
            Check.due("no tick", x.clock(), 0);
            Check.due("nothing is sent", x.transmissionCount(), 0);
            PacketScheduler both = Check.loaded("flow 1 1;flow 1 1;rule port 1 1 to 1;");
            both.arrive(0, 0, 0, 1);
            both.arrive(0, 0, 1, 1);
            both.run(0);
            Check.due("no record", both.audit(0, 1, 0), NONE);
            Check.due("run(500)", x.run(500), 1);
            Check.due("500 ticks", x.clock(), 500);
            Check.refused("run(-1)", () -> x.run(-1));
            Check.refused("run(501)", () -> x.run(501));
        });
        Edge.of(22, "Returns the number of packets that were delivered in this time;", () -> {
            PacketScheduler x = Check.loaded("flow 1 60000; flow 1 60000 retries 0; rule port 1 1 to 1; link 9000;"
                    + "delay 4; timeout 3;");
            Check.due("no packets", x.run(1), 0);
            for (int i = 0; i < 100; i++) {
                x.arrive(0, 0, i % 2, 1);
            }
            Check.due("they are lost first", x.run(4), 0);
            Check.due("all come late, the dropped ones too", x.run(1), 100);
            Check.due("duplicates are no deliveries", x.run(500), 0);
            Check.due("there were duplicates", x.flow(0, 12), 50);
        });
        Edge.of(22, "-5 if the clock would exceed 1000000.", () -> {
            PacketScheduler x = one();
            // More calls than the document promises answers for; its words are kept to all the same.
            for (int i = 0; i < 1999; i++) {
                x.run(500);
            }
            x.run(1);
            Check.due("to 1000001", x.run(500), -5);
            Check.unchanged("run", x, () -> x.run(500));
            Check.due("the clock", x.clock(), 999501);
            Check.due("to just 1000000", x.run(499), 0);
            Check.due("one more", x.run(1), -5);
            Check.due("none more", x.run(0), 0);
            Check.refused("a wrong number comes first", () -> x.run(501));
        });
        Edge.of(22, "Throws `IllegalArgumentException` if ticks is out of range", () -> {
            for (PacketScheduler x : new PacketScheduler[] {new PacketScheduler(), one()}) {
                for (int wrong : new int[] {-1, 501, 1000, Integer.MIN_VALUE, Integer.MAX_VALUE}) {
                    Check.refused("run(" + wrong + ")", () -> x.run(wrong));
                    Check.unchanged("run(" + wrong + ")", x, () -> x.run(wrong));
                }
            }
        });
    }

    private static void setWeight() {
        Edge.of(23, "Operation: changes the weight of a flow;", () -> {
            PacketScheduler x = Check.loaded(Check.times("flow 3 60000;", 6));
            x.setWeight(5, 16);
            for (int flow = 0; flow < 6; flow++) {
                Check.due("the weight of flow " + flow, x.flow(flow, 0), flow == 5 ? 16 : 3);
            }
            Check.due("it is recorded", x.undoCount(), 1);
        });
        Edge.of(23, "charges of transmissions and virtual times stay.", () -> {
            PacketScheduler x = Check.loaded("flow 1 60000; delay 9; timeout 2;");
            x.arrive(0, 0, 0, 16);
            x.run(1);
            x.setWeight(0, 16);
            Check.due("the charge", x.charge(0), 16 * SCALE);
            Check.due("the virtual time", x.virtualTime(0), 16 * SCALE);
            x.run(2);
            Check.due("the refund is what was charged, the new charge is smaller", x.virtualTime(0), SCALE);
            Check.due("the new charge", x.charge(1), SCALE);
        });
        Edge.of(23, "`weight`: 1 to 16", () -> {
            PacketScheduler x = one();
            for (int weight = 1; weight <= 16; weight++) {
                x.setWeight(0, weight);
                Check.due("weight", x.flow(0, 0), weight);
            }
            Check.refused("0", () -> x.setWeight(0, 0));
            Check.refused("17", () -> x.setWeight(0, 17));
        });
        Edge.of(23, "Returns the weight before.", () -> {
            PacketScheduler x = Check.loaded("flow 7 1;");
            Check.due("of the text", x.setWeight(0, 16), 7);
            Check.due("of the call before", x.setWeight(0, 1), 16);
            Check.due("the same weight", x.setWeight(0, 1), 1);
            x.undo();
            x.undo();
            Check.due("after undoing", x.setWeight(0, 2), 16);
        });
        Edge.of(23, "Throws `NoSuchElementException` if there is no such flow (checked first)", () -> {
            for (int flows : new int[] {0, 3, 6}) {
                PacketScheduler x = Check.loaded(Check.times("flow 1 1;", flows));
                LookEdges.only("setWeight", x, 0, flow -> x.setWeight(flow < 0 ? flow : flow + flows, 1));
                for (int weight : new int[] {0, 17, -1}) {
                    Check.missing("a wrong weight too", () -> x.setWeight(flows, weight));
                    Check.missing("a wrong weight too", () -> x.setWeight(-1, weight));
                }
            }
        });
        Edge.of(23, "Throws `IllegalArgumentException` if weight is out of range", () -> {
            PacketScheduler x = one();
            for (int weight : new int[] {0, 17, -1, 18, Integer.MIN_VALUE, Integer.MAX_VALUE}) {
                Check.refused("weight " + weight, () -> x.setWeight(0, weight));
                Check.unchanged("weight " + weight, x, () -> x.setWeight(0, weight));
            }
        });
    }

    private static void operations() {
        Edge.of(33, "arrive, run and setWeight are operations.", () -> {
            PacketScheduler x = one();
            x.arrive(0, 0, 0, 1);
            Check.due("arrive", x.undoCount(), 1);
            x.run(1);
            Check.due("run", x.undoCount(), 2);
            x.setWeight(0, 2);
            Check.due("setWeight", x.undoCount(), 3);
            x.classify(0, 0, 0);
            x.forecast(0, 9);
            x.weightFor(0, 9);
            x.format(0);
            x.saveSnapshot();
            x.worst();
            Check.query(x, "many 1=1");
            Check.due("no other call is one", x.undoCount(), 3);
        });
        Edge.of(33, "Every successful call of an operation is recorded, even if it changes nothing.", () -> {
            PacketScheduler x = one();
            x.run(0);
            Check.due("run(0)", x.undoCount(), 1);
            x.setWeight(0, 1);
            Check.due("the same weight", x.undoCount(), 2);
            Check.due("undo", x.undo(), 1);
            Check.due("undo", x.undo(), 0);
        });
        Edge.of(33, "A call that returns a negative error code or throws an exception changes nothing.", () -> {
            PacketScheduler x = Check.loaded("flow 1 10; flow 1 60000; rule port 1 1 to 1; delay 9;");
            x.arrive(0, 0, 0, 10);
            x.arrive(0, 0, 1, 700);
            x.run(2);
            x.arrive(0, 0, 0, 9);
            Check.unchanged("arrive, -4", x, () -> x.arrive(0, 0, 0, 2));
            Check.due("-4", x.arrive(0, 0, 0, 2), -4);
            Check.unchanged("arrive", x, () -> x.arrive(0, 0, 0, 0));
            Check.unchanged("run", x, () -> x.run(-1));
            Check.unchanged("setWeight", x, () -> x.setWeight(0, 0));
            Check.unchanged("setWeight", x, () -> x.setWeight(2, 1));
            Check.due("nothing of it is undone", x.undo(), 3);
            Check.due("but what came before", x.flow(0, 7), 0);
        });
    }
}

/** Promises 5 to 20 at their boundaries: the calls that look at flows, rules, packets and transmissions. */
final class LookEdges {
    private static final int NONE = PacketScheduler.NONE;
    private static final long SCALE = 720720;
    private static final int[] WRONG_BYTES = {-1, 256, Integer.MIN_VALUE, Integer.MAX_VALUE, 1 << 16, -256};

    private LookEdges() {
    }

    static void all() {
        counts();
        classify();
        flow();
        queues();
        packet();
        transmission();
    }

    interface OfNumber {
        Object answer(int number);
    }

    /** Numbers from 0 to count - 1 are there; all others are refused and change nothing. */
    static void only(String call, PacketScheduler x, int count, OfNumber body) {
        for (int number = 0; number < count; number++) {
            int there = number;
            Object answer = Check.answer(() -> body.answer(there));
            Check.due(call + " " + number + " answers", answer instanceof String, false);
        }
        for (int number : new int[] {-1, count, count + 1, 1000, Integer.MIN_VALUE, Integer.MAX_VALUE, 1 << 30}) {
            Check.missing(call + " " + number + " of " + count, () -> body.answer(number));
            Check.unchanged(call + " " + number, x, () -> body.answer(number));
        }
    }

    /** Six flows, the last of which has 100 packets, of which 20 are sent. */
    private static PacketScheduler full() {
        PacketScheduler x = Check.loaded(Check.times("flow 1 60000;", 6) + "rule to 5; link 200;");
        for (int i = 0; i < 100; i++) {
            x.arrive(i, 2 * i, 3, 10);
        }
        x.run(1);
        return x;
    }

    private static void counts() {
        Edge.of(5, "Returns the number of flows.", () -> {
            PacketScheduler x = new PacketScheduler();
            Check.due("none", x.flowCount(), 0);
            for (int flows = 6; flows >= 0; flows--) {
                Check.load(x, Check.times("flow 1 1;", flows));
                Check.due("flowCount", x.flowCount(), flows);
            }
        });
        Edge.of(5, "There are at most 6 flows, numbered from 0.", () -> {
            PacketScheduler x = new PacketScheduler();
            Check.due("six", Check.load(x, "flow 1 1;flow 2 1;flow 3 1;flow 4 1;flow 5 1;flow 6 1;"), 6);
            for (int flow = 0; flow < 6; flow++) {
                Check.due("the weight of flow " + flow, x.flow(flow, 0), flow + 1);
            }
            Check.missing("flow 6", () -> x.flow(6, 0));
            Check.due("seven", Check.load(x, Check.times("flow 7 1;", 7)), -13);
            Check.due("flowCount", x.flowCount(), 6);
        });
        Edge.of(6, "Returns the number of rules.", () -> {
            PacketScheduler x = new PacketScheduler();
            Check.due("none", x.ruleCount(), 0);
            for (int rules = 12; rules >= 0; rules--) {
                Check.load(x, "flow 1 1;" + Check.times("rule to 0;", rules));
                Check.due("ruleCount", x.ruleCount(), rules);
            }
        });
        Edge.of(6, "There are at most 12 rules.", () -> {
            String text = "flow 1 1;flow 1 1;" + Check.times("rule port 1 1 to 0;", 11);
            PacketScheduler x = Check.loaded(text + "rule port 2 2 to 1;");
            Check.due("the twelfth", x.classify(0, 0, 2), 1);
            Check.due("a thirteenth", Check.load(x, text + "rule to 1;rule to 1;"), -13);
            Check.due("ruleCount", x.ruleCount(), 12);
            Check.due("the rules are the old ones", x.classify(0, 0, 3), 0);
        });
        Edge.of(7, "Returns the number of packets.", () -> {
            PacketScheduler x = Check.loaded("flow 1 60000;");
            for (int packets = 0; packets < 100; packets++) {
                Check.due("packetCount", x.packetCount(), packets);
                x.arrive(0, 0, 0, 1);
            }
            Check.due("packetCount", x.packetCount(), 100);
            x.arrive(0, 0, 0, 1);
            Check.due("packetCount", x.packetCount(), 100);
            x.run(3);
            Check.due("delivered ones are packets too", x.packetCount(), 100);
        });
        Edge.of(7, "There are at most 100 packets, numbered from 0 in the order in which they arrive.", () -> {
            PacketScheduler x = Check.loaded("flow 1 60000;flow 1 60000;rule port 1 1 to 1;");
            for (int i = 0; i < 100; i++) {
                Check.due("arrive", x.arrive(0, 0, i % 2, 1 + i), i);
                Check.due("size of packet " + i, x.packet(i, 1), 1 + i);
            }
            Check.due("one more", x.arrive(0, 0, 0, 1), -3);
            Check.missing("packet 100", () -> x.packet(100, 0));
        });
        Edge.of(8, "Returns the number of transmissions.", () -> {
            PacketScheduler x = Check.loaded("flow 1 60000; link 1; delay 1;");
            Check.due("none", x.transmissionCount(), 0);
            x.arrive(0, 0, 0, 1);
            Check.due("none", x.transmissionCount(), 0);
            x.run(1);
            Check.due("one", x.transmissionCount(), 1);
            x.run(9);
            Check.due("acknowledged ones are transmissions too", x.transmissionCount(), 1);
        });
        Edge.of(8, "There are at most 300 transmissions, numbered from 0 in the order in which they are sent.",
                LookEdges::mostTransmissions);
        Edge.of(9, "Returns the clock.", () -> {
            PacketScheduler x = new PacketScheduler();
            x.run(0);
            Check.due("after no tick", x.clock(), 0);
            x.run(1);
            Check.due("after one", x.clock(), 1);
            x.run(500);
            Check.due("after 501", x.clock(), 501);
        });
        Edge.of(9, "The clock starts at 0.", () -> {
            Check.due("of a new object", new PacketScheduler().clock(), 0);
            PacketScheduler x = new PacketScheduler();
            x.run(7);
            x.load(0);
            Check.due("of a new text", x.clock(), 0);
        });
        Edge.of(10, "Returns the credit of the link.", () -> {
            PacketScheduler x = Check.loaded("flow 1 60000; link 7;");
            Check.due("at first", x.credit(), 0);
            x.arrive(0, 0, 0, 15);
            x.run(1);
            Check.due("after one tick", x.credit(), 7);
            x.run(1);
            Check.due("after two", x.credit(), 14);
            x.run(1);
            Check.due("all is sent", x.credit(), 0);
        });
    }

    private static void mostTransmissions() {
        PacketScheduler x = Check.loaded("flow 1 60000 retries 9; link 9000; delay 50; timeout 1;");
        for (int i = 0; i < 100; i++) {
            x.arrive(0, 0, 0, 1);
        }
        x.run(2);
        Check.due("transmissionCount", x.transmissionCount(), 200);
        Check.due("the 100th", x.transmission(99, 0), 99);
        Check.due("the 101st: the last packet came to the head", x.transmission(100, 0), 99);
        Check.due("the 200th", x.transmission(199, 0), 0);
        x.run(1);
        Check.due("just 300", x.transmissionCount(), 300);
        Check.due("no packet waits", x.flow(0, 7), 0);
        x.run(1);
        Check.due("no more than 300", x.transmissionCount(), 300);
        Check.due("all packets wait", x.flow(0, 7), 100);
        only("charge of", x, 300, x::charge);
    }

    private static void classify() {
        Edge.of(11, "Identifies the flow of a packet.", () -> {
            PacketScheduler x = Check.loaded("flow 1 1;flow 1 1;rule source 9 9 to 1;");
            Check.due("flow 1", x.classify(9, 0, 0), 1);
            Check.due("no packet arrives", x.packetCount(), 0);
            Check.unchanged("classify", x, () -> x.classify(9, 0, 0));
        });
        Edge.of(11, "A rule has a range for the source, the target and the port (each 0 to 255 if it is not given),"
                + " and a"
                + " flow.", LookEdges::ranges);
        Edge.of(11, "A packet belongs to the flow of the first rule in whose ranges its source, target and port"
                + " are, or to"
                + " flow 0 if there is no such rule.", () -> {
            PacketScheduler x = Check.loaded(Check.times("flow 1 60000;", 4) + "rule source 1 9 to 3;"
                    + "rule source 9 20 to 2;rule source 9 9 to 1;rule source 21 21 target 4 4 port 4 4 to 1;");
            Check.due("two rules: the first", x.classify(9, 0, 0), 3);
            Check.due("the second alone", x.classify(10, 0, 0), 2);
            Check.due("no rule below", x.classify(0, 0, 0), 0);
            Check.due("no rule above", x.classify(22, 0, 0), 0);
            Check.due("all three ranges", x.classify(21, 4, 4), 1);
            Check.due("not the source", x.classify(22, 4, 4), 0);
            Check.due("not the target", x.classify(21, 5, 4), 0);
            Check.due("not the port", x.classify(21, 4, 3), 0);
            x.arrive(9, 0, 0, 1);
            x.arrive(22, 0, 0, 1);
            Check.due("packets go by the same rules", x.packet(0, 0), 3);
            Check.due("packets go by the same rules", x.packet(1, 0), 0);
            Check.due("no rules", Check.loaded("flow 1 1;flow 1 1;").classify(255, 255, 255), 0);
        });
        PacketScheduler x = Check.loaded("flow 1 1;flow 1 1;rule to 1;");
        Edge.of(11, "`source`: 0 to 255", () -> {
            Check.due("the least", x.classify(0, 1, 1), 1);
            Check.due("the greatest", x.classify(255, 1, 1), 1);
            Check.refused("-1", () -> x.classify(-1, 1, 1));
            Check.refused("256", () -> x.classify(256, 1, 1));
        });
        Edge.of(11, "`target`: 0 to 255", () -> {
            Check.due("the least", x.classify(1, 0, 1), 1);
            Check.due("the greatest", x.classify(1, 255, 1), 1);
            Check.refused("-1", () -> x.classify(1, -1, 1));
            Check.refused("256", () -> x.classify(1, 256, 1));
        });
        Edge.of(11, "`port`: 0 to 255", () -> {
            Check.due("the least", x.classify(1, 1, 0), 1);
            Check.due("the greatest", x.classify(1, 1, 255), 1);
            Check.refused("-1", () -> x.classify(1, 1, -1));
            Check.refused("256", () -> x.classify(1, 1, 256));
        });
        Edge.of(11, "Returns the flow;", () -> {
            PacketScheduler six = Check.loaded(Check.times("flow 1 1;", 6) + "rule port 7 7 to 5;");
            Check.due("the first flow", six.classify(0, 0, 6), 0);
            Check.due("the last flow", six.classify(0, 0, 7), 5);
        });
        Edge.of(11, "NONE if there are no flows.", () -> {
            PacketScheduler empty = new PacketScheduler();
            Check.due("a new object", empty.classify(0, 0, 0), NONE);
            Check.load(empty, "flow 1 1;rule to 0;");
            Check.load(empty, "link 5;");
            Check.due("a text without flows", empty.classify(255, 255, 255), NONE);
        });
        Edge.of(11, "Throws `IllegalArgumentException` if a parameter is out of range", () -> {
            for (PacketScheduler y : new PacketScheduler[] {x, new PacketScheduler()}) {
                for (int wrong : WRONG_BYTES) {
                    Check.refused("source " + wrong, () -> y.classify(wrong, 0, 0));
                    Check.refused("target " + wrong, () -> y.classify(0, wrong, 0));
                    Check.refused("port " + wrong, () -> y.classify(0, 0, wrong));
                    Check.unchanged("classify", y, () -> y.classify(wrong, 0, 0));
                }
            }
        });
    }

    private static void ranges() {
        String[] names = {"source", "target", "port"};
        for (int part = 0; part < 3; part++) {
            PacketScheduler x = Check.loaded("flow 1 1;flow 1 1;rule " + names[part] + " 10 20 to 1;");
            for (int value : new int[] {0, 9, 10, 15, 20, 21, 255}) {
                int flow = value >= 10 && value <= 20 ? 1 : 0;
                for (int rest = 0; rest <= 255; rest += 255) {
                    int[] address = {rest, rest, rest};
                    address[part] = value;
                    Check.due(names[part] + " " + value + ", the others " + rest,
                            x.classify(address[0], address[1], address[2]), flow);
                }
            }
        }
        PacketScheduler all = new PacketScheduler();
        for (int texts = 0; texts < 5; texts++) {
            boolean given = texts < 2;
            Check.load(all, "flow 1 1;flow 1 1;rule " + (given ? "source 9 9 target 9 9 port 9 9 to 1;" : "to 1;"));
            Check.due("ranges of an earlier text: the least", all.classify(0, 0, 0), given ? 0 : 1);
            Check.due("ranges of an earlier text: the greatest", all.classify(255, 255, 255), given ? 0 : 1);
        }
        Check.due("no range is given: the least", all.classify(0, 0, 0), 1);
        Check.due("no range is given: the greatest", all.classify(255, 255, 255), 1);
    }

    private static void flow() {
        Edge.of(12, "Returns one property of a flow.", () -> {
            PacketScheduler x = full();
            only("flow", x, 6, flow -> x.flow(flow, 0));
            Check.unchanged("flow", x, () -> x.flow(0, 15));
        });
        Edge.of(12, "A flow has a weight (1 to 16), a limit for the bytes in its queue, a burst, a number of"
                + " retries, a loss"
                + " number, a late number and a late time (0: it has none of these).", () -> {
            PacketScheduler x = Check.loaded("flow 1 1;flow 16 60000 burst 20000 retries 9 loss 99 late 99 200;");
            int[][] settings = {{1, 1, 0, 3, 0, 0, 0}, {16, 60000, 20000, 9, 99, 99, 200}};
            for (int flow = 0; flow < 2; flow++) {
                for (int what = 0; what < 7; what++) {
                    Check.due("flow(" + flow + ", " + what + ")", x.flow(flow, what), settings[flow][what]);
                }
            }
            PacketScheduler none = Check.loaded("flow 1 60000;");
            for (int i = 0; i < 100; i++) {
                none.arrive(0, 0, 0, 10);
            }
            none.run(1);
            for (int i = 0; i < 100; i++) {
                Check.due("with 0 none is lost or late, " + i, none.transmission(i, 2), 2);
            }
        });
        Edge.of(12, "`what`: 0 weight, 1 limit, 2 burst, 3 retries, 4 loss number, 5 late number, 6 late time, 7"
                + " packets in"
                + " its queue", LookEdges::flowProperties);
        Edge.of(12, "Throws `NoSuchElementException` if there is no such flow or what is out of range", () -> {
            for (PacketScheduler x : new PacketScheduler[] {new PacketScheduler(), full()}) {
                only("flow", x, x.flowCount(), flow -> x.flow(flow, 15));
                for (int what : new int[] {-1, 16, 17, Integer.MIN_VALUE, Integer.MAX_VALUE}) {
                    Check.missing("flow(0, " + what + ")", () -> x.flow(0, what));
                }
            }
        });
        Edge.of(13, "Returns the virtual time of a flow.", () -> {
            PacketScheduler x = Check.loaded("flow 1 60000; flow 16 60000; rule port 1 1 to 1; link 9000;");
            for (int i = 0; i < 50; i++) {
                x.arrive(0, 0, i % 2, 1000);
            }
            x.run(100);
            Check.due("beyond an int", x.virtualTime(0), 25L * 1000 * SCALE);
            Check.due("of the greatest weight", x.virtualTime(1), 25L * 1000 * SCALE / 16);
        });
        Edge.of(13, "It also has a virtual time, which is 0 at first, and a queue of packets, which is empty at"
                + " first.", () -> {
            PacketScheduler x = Check.loaded(Check.times("flow 1 1;", 6));
            for (int flow = 0; flow < 6; flow++) {
                Check.due("virtualTime", x.virtualTime(flow), 0);
                Check.due("queued", x.queued(flow, 0), NONE);
                Check.due("packets", x.flow(flow, 7), 0);
                Check.due("bytes", x.flow(flow, 8), 0);
            }
        });
        noSuchFlow(13, "virtualTime", PacketScheduler::virtualTime);
        Edge.of(14, "Returns whether a flow is idle.", () -> {
            PacketScheduler x = Check.loaded("flow 1 60000; flow 1 60000; delay 1;");
            Check.due("nothing has arrived", x.isIdle(0), true);
            x.arrive(0, 0, 0, 1);
            Check.due("a packet waits", x.isIdle(0), false);
            Check.due("the other flow", x.isIdle(1), true);
        });
        Edge.of(14, "A flow is idle if its queue is empty and none of the transmissions of its packets is"
                + " outstanding.", () -> {
            PacketScheduler x = Check.loaded("flow 1 60000; link 10; delay 3; timeout 2;");
            x.arrive(0, 0, 0, 10);
            Check.due("queued, none outstanding", x.isIdle(0), false);
            x.run(1);
            x.arrive(0, 0, 0, 100);
            Check.due("queued and outstanding", x.isIdle(0), false);
            x.undo();
            Check.due("outstanding, none queued", x.isIdle(0), false);
            x.setWeight(0, 1);
            x.run(3);
            Check.due("delivered, but another one is outstanding", x.isIdle(0), false);
            Check.due("its packet is delivered", x.packet(0, 3), 2);
            x.run(1);
            Check.due("lost, and an acknowledgment is to come", x.transmission(1, 2), 5);
            Check.due("neither queued nor outstanding", x.isIdle(0), true);
        });
        noSuchFlow(14, "isIdle", PacketScheduler::isIdle);
    }

    private interface OfFlow {
        Object answer(PacketScheduler x, int flow);
    }

    private static void noSuchFlow(int promise, String call, OfFlow body) {
        Edge.of(promise, "Throws `NoSuchElementException` if there is no such flow", () -> {
            for (PacketScheduler x : new PacketScheduler[] {new PacketScheduler(), Check.loaded("flow 1 1;"), full()}) {
                only(call, x, x.flowCount(), flow -> body.answer(x, flow));
            }
        });
    }

    /** Every property from 7 to 15 comes to a number of its own: seen from a run with losses, drops and late ones. */
    private static void flowProperties() {
        PacketScheduler x = Check.loaded("flow 2 60000; flow 5 4000 burst 6 retries 0 loss 7 late 3 8;"
                + "rule port 1 1 to 1; link 600; delay 4; timeout 3;");
        int[] first = {5, 4000, 6, 0, 7, 3, 8, 0, 0, 0, 0, 0, 0, 0, 0, 0};
        same(x, first);
        x.arrive(0, 0, 0, 600);
        x.run(1);
        for (int i = 0; i < 7; i++) {
            x.arrive(0, 0, 1, 100 + i);
        }
        same(x, new int[] {5, 4000, 6, 0, 7, 3, 8, 7, 721, 0, 0, 0, 0, 0, 0, 1});
        x.run(1);
        // 0 to 4 are sent, 510 bytes; the credit of 90 is kept for the sixth.
        same(x, new int[] {5, 4000, 6, 0, 7, 3, 8, 2, 211, 5, 0, 0, 0, 0, 0, 1});
        x.run(3);
        // At 4 five are lost and dropped; the two others were sent at 2, and the seventh has no acknowledgment.
        same(x, new int[] {5, 4000, 6, 0, 7, 3, 8, 0, 0, 7, 0, 5, 0, 0, 5, 1});
        x.run(1);
        // At 5 four late acknowledgments come (the third one is later), and the two others are lost.
        same(x, new int[] {5, 4000, 6, 0, 7, 3, 8, 0, 0, 7, 408, 7, 0, 4, 3, 1});
        x.run(100);
        same(x, new int[] {5, 4000, 6, 0, 7, 3, 8, 0, 0, 7, 615, 7, 0, 6, 1, 1});
        Check.due("duplicates of the other flow", x.flow(0, 12), 1);
    }

    private static void same(PacketScheduler x, int[] properties) {
        for (int what = 0; what < properties.length; what++) {
            Check.due("at " + x.clock() + " flow(1, " + what + ")", x.flow(1, what), properties[what]);
        }
    }

    private static void queues() {
        Edge.of(15, "Returns the packet at an index of the queue of a flow, from 0;", () -> {
            PacketScheduler x = Check.loaded("flow 1 60000; flow 1 60000; rule port 1 1 to 1;");
            for (int i = 0; i < 100; i++) {
                x.arrive(0, 0, i % 2, 1);
            }
            for (int i = 0; i < 50; i++) {
                Check.due("queued(0, " + i + ")", x.queued(0, i), 2 * i);
                Check.due("queued(1, " + i + ")", x.queued(1, i), 2 * i + 1);
            }
        });
        Edge.of(15, "NONE if there are not so many.", () -> {
            PacketScheduler x = Check.loaded("flow 1 60000; flow 1 60000;");
            Check.due("an empty queue", x.queued(0, 0), NONE);
            x.arrive(0, 0, 0, 1);
            Check.due("queued(0, 0)", x.queued(0, 0), 0);
            Check.due("queued(0, 1)", x.queued(0, 1), NONE);
            Check.due("the other flow", x.queued(1, 0), NONE);
            Check.due("the greatest index", x.queued(0, Integer.MAX_VALUE), NONE);
            for (int i = 1; i < 100; i++) {
                x.arrive(0, 0, 0, 1);
            }
            Check.due("queued(0, 99)", x.queued(0, 99), 99);
            Check.due("queued(0, 100)", x.queued(0, 100), NONE);
            x.run(1);
            Check.due("they have left", x.queued(0, 0), NONE);
        });
        Edge.of(15, "Throws `NoSuchElementException` if there is no such flow or index is negative", () -> {
            PacketScheduler x = full();
            only("queued", x, 6, flow -> x.queued(flow, 0));
            only("queued", new PacketScheduler(), 0, flow -> new PacketScheduler().queued(flow, 0));
            for (int index : new int[] {-1, -100, Integer.MIN_VALUE}) {
                Check.missing("queued(5, " + index + ")", () -> x.queued(5, index));
                Check.missing("queued(0, " + index + "), an empty queue", () -> x.queued(0, index));
                Check.missing("queued(6, " + index + ")", () -> x.queued(6, index));
            }
        });
        Edge.of(16, "Returns the next flow;", () -> {
            PacketScheduler x = Check.loaded(Check.times("flow 1 60000;", 3) + "rule port 1 1 to 1; rule port 2 2"
                    + " to 2;");
            x.arrive(0, 0, 2, 1);
            Check.due("the only one", x.nextFlow(), 2);
            x.arrive(0, 0, 1, 1);
            Check.due("the lower one on a tie", x.nextFlow(), 1);
            x.arrive(0, 0, 0, 1);
            Check.due("the lowest one on a tie", x.nextFlow(), 0);
        });
        Edge.of(16, "NONE if all queues are empty.", () -> {
            PacketScheduler x = new PacketScheduler();
            Check.due("no flows", x.nextFlow(), NONE);
            Check.load(x, "flow 1 60000;");
            Check.due("no packets", x.nextFlow(), NONE);
            x.arrive(0, 0, 0, 1);
            Check.due("a packet", x.nextFlow(), 0);
            x.run(1);
            Check.due("it is sent, the flow is not idle", x.isIdle(0), false);
            Check.due("all queues are empty", x.nextFlow(), NONE);
        });
    }

    private static void packet() {
        Edge.of(17, "Returns one property of a packet.", () -> {
            PacketScheduler x = full();
            only("packet", x, 100, packet -> x.packet(packet, 0));
            Check.unchanged("packet", x, () -> x.packet(99, 8));
        });
        Edge.of(17, "5 tick at which it was delivered (NONE if it is not)", () -> {
            PacketScheduler x = Check.loaded("flow 1 60000 retries 0; delay 4; timeout 2;");
            x.run(1);
            x.arrive(255, 254, 253, 1500);
            int[] properties = {0, 1500, 1, 0, 0, NONE, 255, 254, 253};
            for (int what = 0; what < 9; what++) {
                Check.due("packet(0, " + what + ")", x.packet(0, what), properties[what]);
            }
            int[] states = {0, 1, 1, 3, 3, 2};
            for (int tick = 1; tick <= 6; tick++) {
                x.run(1);
                Check.due("state after the tick at " + tick, x.packet(0, 3), states[tick - 1]);
                Check.due("delivered, after the tick at " + tick, x.packet(0, 5), tick == 6 ? 6 : NONE);
            }
            Check.due("transmissions", x.packet(0, 4), 1);
        });
        Edge.of(17, "A packet has a flow, a size (1 to 1500 bytes), a source, a target and a port, and is in one of"
                + " these"
                + " states: 0 queued, 1 in flight, 2 delivered, 3 dropped.", () -> {
            PacketScheduler x = Check.loaded("flow 1 60000 loss 2 retries 0;");
            x.arrive(0, 0, 0, 1);
            x.arrive(255, 255, 255, 1500);
            Check.due("the least size", x.packet(0, 1), 1);
            Check.due("the greatest size", x.packet(1, 1), 1500);
            Check.due("queued", x.packet(1, 3), 0);
            x.run(2);
            Check.due("in flight", x.packet(1, 3), 1);
            x.run(1);
            Check.due("delivered", x.packet(0, 3), 2);
            x.run(4);
            Check.due("dropped", x.packet(1, 3), 3);
        });
        Edge.of(17, "Throws `NoSuchElementException` if there is no such packet or what is out of range", () -> {
            for (PacketScheduler x : new PacketScheduler[] {new PacketScheduler(), Check.loaded("flow 1 1;"), full()}) {
                only("packet", x, x.packetCount(), packet -> x.packet(packet, 8));
                for (int what : new int[] {-1, 9, 10, Integer.MIN_VALUE, Integer.MAX_VALUE}) {
                    Check.missing("packet(0, " + what + ")", () -> x.packet(0, what));
                }
            }
        });
    }

    private static void transmission() {
        Edge.of(18, "Returns one property of a transmission.", () -> {
            PacketScheduler x = full();
            only("transmission", x, 20, number -> x.transmission(number, 0));
            Check.unchanged("transmission", x, () -> x.transmission(19, 4));
        });
        Edge.of(18, "2 acknowledgment tick (NONE if there is no acknowledgment), 3 state, 4 whether it is charged"
                + " (1 or 0)",
                LookEdges::transmissionProperties);
        Edge.of(18, "A transmission belongs to a packet and is in one of these states: 0 outstanding, 1 acknowledged, 2"
                + " declared lost, 3 acknowledged late.", () -> {
            PacketScheduler x = Check.loaded("flow 1 60000 retries 0 late 2 2; delay 1; timeout 2;");
            x.arrive(0, 0, 0, 5);
            x.arrive(0, 0, 0, 6);
            x.run(1);
            Check.due("outstanding", x.transmission(0, 3), 0);
            x.run(1);
            Check.due("acknowledged", x.transmission(0, 3), 1);
            Check.due("outstanding", x.transmission(1, 3), 0);
            x.run(1);
            Check.due("declared lost", x.transmission(1, 3), 2);
            x.run(1);
            Check.due("acknowledged late", x.transmission(1, 3), 3);
            Check.due("its packet", x.transmission(1, 0), 1);
        });
        Edge.of(18, "Throws `NoSuchElementException` if there is no such transmission or what is out of range", () -> {
            for (PacketScheduler x : new PacketScheduler[] {new PacketScheduler(), Check.loaded("flow 1 1;"), full()}) {
                only("transmission", x, x.transmissionCount(), number -> x.transmission(number, 4));
                for (int what : new int[] {-1, 5, 6, Integer.MIN_VALUE, Integer.MAX_VALUE}) {
                    Check.missing("transmission(0, " + what + ")", () -> x.transmission(0, what));
                }
            }
        });
        Edge.of(19, "Returns the charge of a transmission.", () -> {
            PacketScheduler x = Check.loaded("flow 1 60000 retries 0; link 9000; delay 9; timeout 1;");
            x.arrive(0, 0, 0, 1);
            x.arrive(0, 0, 0, 1500);
            x.run(1);
            Check.due("the least size", x.charge(0), SCALE);
            Check.due("the greatest size", x.charge(1), 1500 * SCALE);
            x.run(1);
            Check.due("it is not charged any more", x.transmission(1, 4), 0);
            Check.due("the charge stays", x.charge(1), 1500 * SCALE);
        });
        Edge.of(19, "It has a charge, which is the size of the packet * 720720 / the weight of its flow when it is"
                + " sent (this"
                + " is always an integer), and it is charged or not.", () -> {
            for (int weight = 1; weight <= 16; weight++) {
                PacketScheduler x = Check.loaded("flow " + weight + " 60000; link 9000;");
                x.arrive(0, 0, 0, 1);
                x.arrive(0, 0, 0, 1499);
                x.run(1);
                x.setWeight(0, 17 - weight);
                Check.due("one byte at weight " + weight, x.charge(0) * weight, SCALE);
                Check.due("1499 bytes at weight " + weight, x.charge(1) * weight, 1499 * SCALE);
            }
        });
        Edge.of(19, "Throws `NoSuchElementException` if there is no such transmission", () -> {
            for (PacketScheduler x : new PacketScheduler[] {new PacketScheduler(), Check.loaded("flow 1 1;"), full()}) {
                only("charge", x, x.transmissionCount(), x::charge);
            }
        });
        Edge.of(20, "Returns the number of outstanding transmissions of packets of a flow.", () -> {
            PacketScheduler x = Check.loaded("flow 1 60000; flow 1 60000 loss 2; rule port 1 1 to 1; link 9000;"
                    + " delay 3;");
            Check.due("none", x.outstanding(0), 0);
            for (int i = 0; i < 100; i++) {
                x.arrive(0, 0, i % 2, 1);
            }
            Check.due("none is sent", x.outstanding(0), 0);
            x.run(1);
            Check.due("all", x.outstanding(0), 50);
            Check.due("all", x.outstanding(1), 50);
            x.run(2);
            Check.due("before the acknowledgments", x.outstanding(0), 50);
            x.run(1);
            Check.due("acknowledged", x.outstanding(0), 0);
            Check.due("every second one is not", x.outstanding(1), 25);
        });
        noSuchFlow(20, "outstanding", PacketScheduler::outstanding);
    }

    /** Transmissions 0 to 2: acknowledged in time, without acknowledgment, and late. */
    private static void transmissionProperties() {
        PacketScheduler x = Check.loaded("flow 1 60000 retries 0 loss 2 late 3 4; delay 1; timeout 2;");
        x.run(10);
        for (int i = 0; i < 3; i++) {
            x.arrive(0, 0, 0, 5);
        }
        x.run(1);
        int[][] sent = {{0, 10, 11, 0, 1}, {1, 10, NONE, 0, 1}, {2, 10, 15, 0, 1}};
        int[][] later = {{0, 10, 11, 1, 1}, {1, 10, NONE, 2, 0}, {2, 10, 15, 2, 0}};
        int[][] last = {{0, 10, 11, 1, 1}, {1, 10, NONE, 2, 0}, {2, 10, 15, 3, 1}};
        int[][][] all = {sent, later, last};
        for (int[][] due : all) {
            for (int number = 0; number < 3; number++) {
                for (int what = 0; what < 5; what++) {
                    Check.due("at " + x.clock() + " transmission(" + number + ", " + what + ")",
                            x.transmission(number, what), due[number][what]);
                }
            }
            x.run(x.clock() == 11 ? 2 : 3);
        }
    }
}

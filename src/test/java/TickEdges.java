/** What a tick does, at the boundaries that the document names; all of it is what promise 22 simulates. */
final class TickEdges {
    private static final int NONE = PacketScheduler.NONE;
    private static final long SCALE = 720720;

    private TickEdges() {
    }

    static void all() {
        order();
        acknowledgments();
        timeouts();
        credit();
        nextFlow();
        sending();
        acknowledging();
        losing();
    }

    private static void packets(PacketScheduler x, int number, int port, int size) {
        for (int i = 0; i < number; i++) {
            x.arrive(0, 0, port, size);
        }
    }

    private static void order() {
        Edge.of(22, "In a tick at the clock t, the following is done in this order:", () -> {
            PacketScheduler x = Check.loaded("flow 1 60000; link 10; delay 3; timeout 3;");
            x.arrive(0, 0, 0, 10);
            x.run(4);
            Check.due("acknowledged before it would be lost", x.transmission(0, 3), 1);
            Check.due("none is lost", x.flow(0, 11), 0);
            PacketScheduler y = Check.loaded("flow 1 60000; link 10; delay 4; timeout 3;");
            y.arrive(0, 0, 0, 10);
            y.run(4);
            Check.due("lost before packets are sent: sent again in the same tick", y.transmission(1, 1), 3);
            PacketScheduler z = Check.loaded("flow 1 60000; link 50; delay 4; timeout 3;");
            z.arrive(0, 0, 0, 100);
            z.run(5);
            Check.due("sent at 1, lost at 4, it waits with a credit of 50", z.queued(0, 0), 0);
            z.run(1);
            Check.due("acknowledged before packets are sent: it has left the queue", z.transmissionCount(), 1);
        });
        Edge.of(9, "The clock becomes t + 1.", () -> {
            PacketScheduler x = Check.loaded("flow 1 60000; delay 1;");
            x.arrive(0, 0, 0, 1);
            x.run(1);
            Check.due("sent at 0", x.transmission(0, 1), 0);
            Check.due("the clock behind the tick", x.clock(), 1);
            x.run(1);
            Check.due("delivered at 1", x.packet(0, 5), 1);
            Check.due("the clock behind the tick", x.clock(), 2);
        });
    }

    private static void acknowledgments() {
        Edge.of(22, "Each transmission whose acknowledgment tick is t is acknowledged, in ascending order.", () -> {
            for (int delay : new int[] {1, 2, 50}) {
                PacketScheduler x = Check.loaded("flow 1 60000; timeout 200; delay " + delay + ";");
                packets(x, 100, 0, 10);
                x.run(1);
                Check.due("the acknowledgment tick", x.transmission(99, 2), delay);
                Check.due("not before it", x.run(delay - 1), 0);
                Check.due("in it", x.run(1), 100);
            }
            sameTick();
        });
    }

    /** Transmission 1, lost at 5 and late, and 2, its packet's second one, are both acknowledged at 7. */
    private static void sameTick() {
        PacketScheduler x = Check.loaded("flow 1 60000 late 2 5;");
        x.arrive(0, 0, 0, 10);
        x.arrive(0, 0, 0, 20);
        x.run(7);
        Check.due("the first one's tick", x.transmission(1, 2), 7);
        Check.due("the second one's tick", x.transmission(2, 2), 7);
        Check.due("one delivery", x.run(1), 1);
        Check.due("the lower one delivers", x.transmission(1, 3), 3);
        Check.due("the lower one is charged", x.transmission(1, 4), 1);
        Check.due("the higher one is a duplicate", x.transmission(2, 3), 1);
        Check.due("the higher one is refunded", x.transmission(2, 4), 0);
        Check.due("charged again", x.flow(0, 13), 1);
        Check.due("duplicates", x.flow(0, 12), 1);
        Check.due("the virtual time", x.virtualTime(0), 30 * SCALE);
    }

    private static void timeouts() {
        Edge.of(22, "Each outstanding transmission that was sent at t - timeout or before is declared lost, in"
                + " ascending"
                + " order.", () -> {
            for (int timeout : new int[] {1, 2, 49, 200}) {
                PacketScheduler x = Check.loaded("flow 1 60000 late 2 200 retries 0; delay 50; link 9000; timeout "
                        + timeout + ";");
                x.run(3);
                x.arrive(0, 0, 0, 1);
                x.arrive(0, 0, 0, 1);
                x.run(timeout);
                Check.due("not before t - timeout", x.transmission(1, 3), 0);
                x.run(1);
                Check.due("at t - timeout", x.transmission(1, 3), 2);
                Check.due("only outstanding ones", x.flow(0, 11), timeout < 50 ? 2 : 1);
            }
            PacketScheduler y = Check.loaded("flow 1 60000; link 60; delay 50; timeout 4;");
            packets(y, 3, 0, 20);
            y.run(4);
            y.arrive(0, 0, 0, 1500);
            y.run(1);
            int[] order = {0, 1, 2, 2, 1, 0};
            for (int i = 0; i < order.length; i++) {
                Check.due("each comes to the head, packet of " + i, y.transmission(i, 0), order[i]);
            }
        });
    }

    private static void credit() {
        Edge.of(10, "The credit of the link (0 at first) increases by the rate, to at most 100000.",
                TickEdges::mostCredit);
        Edge.of(22, "As long as a queue is not empty, there are fewer than 300 transmissions, and the first packet"
                + " in the"
                + " queue of the next flow is not larger than the credit, this packet is sent, and its size is"
                + " subtracted"
                + " from the credit.", TickEdges::sendsWhile);
        Edge.of(10, "If all queues are empty then, the credit becomes 0.", () -> {
            PacketScheduler x = Check.loaded("flow 1 60000; flow 1 60000; rule port 1 1 to 1; link 100; delay 50;");
            x.run(5);
            Check.due("no packets", x.credit(), 0);
            x.arrive(0, 0, 0, 60);
            x.run(1);
            Check.due("all is sent, 40 were left", x.credit(), 0);
            x.arrive(0, 0, 0, 60);
            x.arrive(0, 0, 1, 60);
            x.run(1);
            Check.due("one queue is not empty", x.credit(), 40);
            x.run(1);
            Check.due("all queues are empty", x.credit(), 0);
            PacketScheduler none = new PacketScheduler();
            none.run(5);
            Check.due("no flows", none.credit(), 0);
            lateLeavesNothing();
        });
    }

    /** The last packet of all queues is taken out by a late acknowledgment while credit is saved for it. */
    private static void lateLeavesNothing() {
        PacketScheduler x = Check.loaded("flow 1 60000; link 40; delay 4; timeout 3;");
        x.arrive(0, 0, 0, 100);
        x.run(6);
        Check.due("it waits again", x.packet(0, 3), 0);
        Check.due("the credit is saved", x.credit(), 40);
        x.run(1);
        Check.due("delivered", x.packet(0, 3), 2);
        Check.due("the credit", x.credit(), 0);
    }

    private static void mostCredit() {
        PacketScheduler x = Check.loaded("flow 1 60000 retries 9; link 9000; delay 50; timeout 1;");
        Check.due("at first", x.credit(), 0);
        packets(x, 100, 0, 90);
        x.run(3);
        Check.due("300 transmissions", x.transmissionCount(), 300);
        Check.due("the credit", x.credit(), 0);
        for (int ticks = 1; ticks <= 11; ticks++) {
            x.run(1);
            Check.due("the credit after " + ticks + " more", x.credit(), 9000 * ticks);
        }
        x.run(1);
        Check.due("99000 + 9000", x.credit(), 100000);
        x.run(1);
        Check.due("100000 + 9000", x.credit(), 100000);
        PacketScheduler y = Check.loaded("flow 1 60000 retries 9; link 5000; delay 50; timeout 1;");
        packets(y, 100, 0, 50);
        y.run(3);
        y.run(20);
        Check.due("just 100000", y.credit(), 100000);
        y.run(1);
        Check.due("no more", y.credit(), 100000);
        PacketScheduler one = Check.loaded("flow 1 60000; link 1;");
        one.arrive(0, 0, 0, 1500);
        one.run(500);
        Check.due("the least rate", one.credit(), 500);
        one.run(500);
        one.run(499);
        Check.due("one byte too little", one.transmissionCount(), 0);
        one.run(1);
        Check.due("just enough", one.transmissionCount(), 1);
    }

    private static void sendsWhile() {
        PacketScheduler x = Check.loaded("flow 1 60000; link 100; delay 50;");
        x.arrive(0, 0, 0, 100);
        x.run(1);
        Check.due("as large as the credit", x.transmissionCount(), 1);
        x.arrive(0, 0, 0, 101);
        x.run(1);
        Check.due("larger by one", x.transmissionCount(), 1);
        Check.due("the credit stays", x.credit(), 100);
        x.arrive(0, 0, 0, 99);
        x.run(1);
        Check.due("both", x.transmissionCount(), 3);
        Check.due("all queues are empty", x.credit(), 0);
        PacketScheduler next = Check.loaded("flow 1 60000; flow 1 60000; rule port 1 1 to 1; link 100;");
        next.arrive(0, 0, 0, 101);
        next.arrive(0, 0, 1, 1);
        next.run(1);
        Check.due("the next flow's first packet alone decides", next.transmissionCount(), 0);
        PacketScheduler most = Check.loaded("flow 1 60000 retries 9; link 9000; delay 50; timeout 1;");
        packets(most, 90, 0, 100);
        most.run(3);
        Check.due("270 transmissions", most.transmissionCount(), 270);
        most.run(1);
        Check.due("just 300", most.transmissionCount(), 300);
        Check.due("the first of those that wait", most.queued(0, 0), 59);
        Check.due("the credit of 30 is spent", most.credit(), 6000);
        most.run(1);
        Check.due("no more", most.transmissionCount(), 300);
        Check.due("nothing is spent", most.credit(), 15000);
        Check.due("they can still be delivered", most.run(100), 90);
    }

    private static void nextFlow() {
        Edge.of(16, "The next flow is, of the flows whose queues are not empty, the one with the least virtual"
                + " time, on a tie"
                + " the one with the lowest number.", () -> {
            PacketScheduler x = Check.loaded("flow 1 60000; flow 1 60000; flow 2 60000; rule port 1 1 to 1;"
                    + "rule port 2 2 to 2; link 10; delay 50; timeout 200;");
            for (int i = 0; i < 4; i++) {
                x.arrive(0, 0, 0, 10);
                x.arrive(0, 0, 1, 10);
                x.arrive(0, 0, 2, 10);
            }
            // In units of 5 bytes at weight 1 flows 0 and 1 pay 2 a packet, flow 2 pays 1.
            int[] order = {0, 1, 2, 2, 0, 1, 2, 2, 0, 1, 0, 1};
            for (int i = 0; i < order.length; i++) {
                Check.due("the next flow before transmission " + i, x.nextFlow(), order[i]);
                x.run(1);
                Check.due("the flow of transmission " + i, x.packet(x.transmission(i, 0), 0), order[i]);
            }
            Check.due("all queues are empty", x.nextFlow(), NONE);
            PacketScheduler y = Check.loaded("flow 1 60000; flow 1 60000 burst 20000; rule port 1 1 to 1; link 10;"
                    + "delay 50; timeout 200;");
            y.arrive(0, 0, 1, 10);
            y.arrive(0, 0, 0, 20);
            y.run(2);
            Check.due("flow 0 is the first, and its queue is empty now", y.virtualTime(0), 20 * SCALE);
            Check.due("flow 1", y.nextFlow(), 1);
            y.run(1);
            Check.due("none", y.nextFlow(), NONE);
            y.arrive(0, 0, 0, 10);
            Check.due("the only one that waits, though its virtual time is the greater", y.nextFlow(), 0);
        });
    }

    private static void sending() {
        Edge.of(22, "Sending a packet: it leaves the queue and is in flight;", () -> {
            PacketScheduler x = Check.loaded("flow 1 60000; link 10;");
            packets(x, 2, 0, 10);
            x.run(1);
            Check.due("the queue", x.queued(0, 0), 1);
            Check.due("its packets", x.flow(0, 7), 1);
            Check.due("its bytes", x.flow(0, 8), 10);
            Check.due("the state", x.packet(0, 3), 1);
            Check.due("the other one's state", x.packet(1, 3), 0);
            x.run(1);
            Check.due("the last one leaves too", x.queued(0, 0), NONE);
        });
        Edge.of(22, "a transmission comes into being, outstanding and charged, and its charge is added to the"
                + " virtual time of"
                + " the flow.", () -> {
            PacketScheduler x = Check.loaded("flow 3 60000; flow 1 60000; link 10;");
            packets(x, 2, 0, 10);
            x.run(1);
            Check.due("transmissions", x.transmissionCount(), 1);
            Check.due("outstanding", x.transmission(0, 3), 0);
            Check.due("charged", x.transmission(0, 4), 1);
            Check.due("the virtual time", x.virtualTime(0), 10 * SCALE / 3);
            Check.due("the other flow's", x.virtualTime(1), 0);
        });
        Edge.of(22, "Let n be the number of transmissions of packets of this flow so far, this one included.", () -> {
            PacketScheduler x = Check.loaded("flow 1 60000; flow 1 60000 loss 3; rule port 1 1 to 1; link 9000;"
                    + " delay 1;");
            for (int i = 0; i < 6; i++) {
                x.arrive(0, 0, 0, 1);
                x.arrive(0, 0, 1, 1);
            }
            x.run(1);
            for (int number = 0; number < 12; number++) {
                int packet = x.transmission(number, 0);
                boolean lost = packet == 5 || packet == 11;
                Check.due("each flow has its own n, packet " + packet, x.transmission(number, 2), lost ? NONE : 1);
            }
            x.run(5);
            // Both are sent again at 5, as n = 7 and n = 8; the one sent first is packet 11.
            Check.due("those that are sent again count too", x.flow(1, 9), 8);
            x.arrive(0, 0, 1, 1);
            x.run(1);
            Check.due("n = 9", x.transmission(14, 2), NONE);
        });
        Edge.of(22, "If the flow has a loss number and n is divisible by it, there is no acknowledgment.", () -> {
            every("loss 2", 2, NONE);
            every("loss 99", 99, NONE);
            every("loss 2 late 2 5", 2, NONE);
            every("loss 7", 7, NONE);
        });
        Edge.of(22, "Otherwise the acknowledgment tick is t + delay, plus the late time if the flow has a late"
                + " number and n is"
                + " divisible by it.", () -> {
            every("late 2 1", 2, 4);
            every("late 99 200", 99, 203);
            every("late 3 7", 3, 10);
            PacketScheduler x = Check.loaded("flow 1 60000 loss 4 late 2 9; delay 50; timeout 200;");
            packets(x, 6, 0, 1);
            x.run(1);
            int[] ticks = {50, 59, 50, NONE, 50, 59};
            for (int i = 0; i < ticks.length; i++) {
                Check.due("the loss comes first, " + i, x.transmission(i, 2), ticks[i]);
            }
        });
    }

    /** Of 100 transmissions with delay 3 each one whose number is divisible has another acknowledgment tick. */
    private static void every(String option, int divisor, int tick) {
        PacketScheduler x = Check.loaded("flow 1 60000 " + option + "; delay 3; timeout 200;");
        packets(x, 100, 0, 1);
        x.run(1);
        for (int i = 0; i < 100; i++) {
            Check.due("with " + option + " transmission " + i, x.transmission(i, 2), (i + 1) % divisor == 0 ? tick : 3);
        }
    }

    private static void acknowledging() {
        Edge.of(22, "Acknowledging a transmission: it becomes acknowledged, or acknowledged late if it was declared"
                + " lost.", () -> {
            int[] delays = {4, 5, 6};
            int[] states = {1, 1, 3};
            for (int i = 0; i < 3; i++) {
                PacketScheduler x = Check.loaded("flow 1 60000 retries 0; timeout 5; delay " + delays[i] + ";");
                x.arrive(0, 0, 0, 1);
                x.run(9);
                Check.due("with delay " + delays[i], x.transmission(0, 3), states[i]);
            }
        });
        Edge.of(22, "If its packet is delivered already, this is a duplicate, and the transmission is refunded if"
                + " it is charged.",
                TickEdges::duplicates);
        Edge.of(22, "Otherwise the packet is delivered;", () -> {
            PacketScheduler x = Check.loaded("flow 1 60000; delay 1;");
            x.arrive(0, 0, 0, 30);
            Check.due("run", x.run(2), 1);
            Check.due("state", x.packet(0, 3), 2);
            Check.due("bytes", x.flow(0, 10), 30);
        });
        Edge.of(22, "if it was queued, it leaves the queue;", TickEdges::leavesQueue);
        Edge.of(22, "and if the transmission is not charged, it is charged again: its charge is added to the"
                + " virtual time of the"
                + " flow.", () -> {
            PacketScheduler x = Check.loaded("flow 4 60000 retries 0; delay 3; timeout 2;");
            x.arrive(0, 0, 0, 40);
            x.run(3);
            Check.due("refunded", x.virtualTime(0), 0);
            Check.due("not charged", x.transmission(0, 4), 0);
            x.setWeight(0, 1);
            x.run(1);
            Check.due("charged again, with the old charge", x.virtualTime(0), 40 * SCALE / 4);
            Check.due("charged", x.transmission(0, 4), 1);
            Check.due("counted", x.flow(0, 13), 1);
            PacketScheduler y = Check.loaded("flow 4 60000; delay 2; timeout 2;");
            y.arrive(0, 0, 0, 40);
            y.run(3);
            Check.due("one that is charged is not charged again", y.virtualTime(0), 40 * SCALE / 4);
            Check.due("not counted", y.flow(0, 13), 0);
        });
    }

    private static void duplicates() {
        // Packet 1 is sent at 0 as n = 2, due at 6, lost at 5, and sent again at 5, due at 7.
        PacketScheduler x = Check.loaded("flow 2 60000 late 2 4;");
        x.arrive(0, 0, 0, 10);
        x.arrive(0, 0, 0, 20);
        Check.due("both are delivered", x.run(7), 2);
        Check.due("both transmissions of packet 1 are charged", x.virtualTime(0), 50 * SCALE / 2);
        Check.due("a duplicate delivers nothing", x.run(1), 0);
        Check.due("a charged one is refunded", x.virtualTime(0), 30 * SCALE / 2);
        Check.due("it is acknowledged", x.transmission(2, 3), 1);
        Check.due("not charged", x.transmission(2, 4), 0);
        Check.due("duplicates", x.flow(0, 12), 1);
        Check.due("bytes", x.flow(0, 10), 30);
        Check.due("delivered at the first time", x.packet(1, 5), 6);
        // With a late time of 5 more the second one comes first, and the late one is not charged.
        PacketScheduler y = Check.loaded("flow 2 60000 late 2 9;");
        y.arrive(0, 0, 0, 10);
        y.arrive(0, 0, 0, 20);
        Check.due("both are delivered", y.run(11), 2);
        Check.due("before", y.virtualTime(0), 30 * SCALE / 2);
        y.run(1);
        Check.due("late", y.transmission(1, 3), 3);
        Check.due("one that is not charged is not refunded", y.virtualTime(0), 30 * SCALE / 2);
        Check.due("duplicates", y.flow(0, 12), 1);
        Check.due("not charged again", y.flow(0, 13), 0);
    }

    private static void leavesQueue() {
        PacketScheduler only = Check.loaded("flow 1 60000; link 40; delay 4; timeout 3;");
        only.arrive(0, 0, 0, 100);
        only.run(6);
        Check.due("it waits alone", only.queued(0, 0), 0);
        only.run(1);
        queueIs(only);
        Check.due("bytes", only.flow(0, 8), 0);
        only.arrive(0, 0, 0, 7);
        queueIs(only, 1);
        PacketScheduler x = fourWait();
        queueIs(x, 7, 5, 3, 1);
        x.arrive(0, 0, 0, 4);
        x.run(1);
        queueIs(x, 7, 5, 3, 21);
        x.run(1);
        queueIs(x, 7, 5, 21);
        x.run(2);
        queueIs(x, 21);
        Check.due("bytes", x.flow(0, 8), 4);
        x.arrive(0, 0, 0, 5);
        queueIs(x, 21, 22);
        PacketScheduler last = fourWait();
        last.run(1);
        queueIs(last, 7, 5, 3);
        last.arrive(0, 0, 0, 4);
        queueIs(last, 7, 5, 3, 21);
        last.run(3);
        queueIs(last, 21);
    }

    /**
     * Of flow 0 the packets 1, 3, 5 and 7, sent late at 50 to 53, are lost at 55 to 58 and acknowledged at 59 to 62.
     * Flow 1, far behind in its virtual time, sends one of its twelve packets in each tick from 54 on.
     */
    private static PacketScheduler fourWait() {
        PacketScheduler x = Check.loaded("flow 1 60000 late 2 8; flow 16 60000 burst 20000; rule port 1 1 to 1;"
                + "link 20; delay 1;");
        x.arrive(0, 0, 0, 1000);
        packets(x, 8, 0, 10);
        x.run(54);
        packets(x, 12, 1, 20);
        x.run(5);
        return x;
    }

    private static void queueIs(PacketScheduler x, int... packets) {
        for (int i = 0; i < packets.length; i++) {
            Check.due("at " + x.clock() + " queued(0, " + i + ")", x.queued(0, i), packets[i]);
        }
        Check.due("at " + x.clock() + " the end of the queue", x.queued(0, packets.length), NONE);
        Check.due("at " + x.clock() + " the packets in the queue", x.flow(0, 7), packets.length);
    }

    private static void losing() {
        Edge.of(22, "Declaring a transmission lost: it is refunded if it is charged.", () -> {
            PacketScheduler x = Check.loaded("flow 8 60000 retries 0 loss 2; timeout 3;");
            packets(x, 2, 0, 80);
            x.run(3);
            Check.due("before", x.virtualTime(0), 2 * 80 * SCALE / 8);
            x.run(1);
            Check.due("state", x.transmission(1, 3), 2);
            Check.due("not charged", x.transmission(1, 4), 0);
            Check.due("refunded", x.virtualTime(0), 80 * SCALE / 8);
            Check.due("counted", x.flow(0, 11), 1);
        });
        Edge.of(22, "If its packet is in flight, and this is its latest transmission, the packet is queued again at"
                + " the head of"
                + " the queue if the number of its transmissions is at most the retries of the"
                + " flow;", TickEdges::retries);
        Edge.of(22, "otherwise it is dropped.", () -> {
            PacketScheduler x = Check.loaded("flow 1 60000 retries 0 loss 2; timeout 1; delay 1;");
            packets(x, 2, 0, 10);
            x.run(1);
            Check.due("not yet", x.flow(0, 14), 0);
            x.run(1);
            Check.due("dropped", x.packet(1, 3), 3);
            Check.due("counted", x.flow(0, 14), 1);
            Check.due("not queued", x.queued(0, 0), NONE);
            Check.due("idle", x.isIdle(0), true);
            x.run(100);
            Check.due("never sent again", x.transmissionCount(), 2);
        });
        Edge.of(22, "(A dropped packet can still be delivered by a late acknowledgment.)", () -> {
            PacketScheduler x = Check.loaded("flow 1 60000 retries 0; delay 50; timeout 1;");
            x.arrive(0, 0, 0, 10);
            x.run(50);
            Check.due("dropped", x.packet(0, 3), 3);
            Check.due("dropped now", x.flow(0, 14), 1);
            Check.due("delivered", x.run(1), 1);
            Check.due("delivered", x.packet(0, 3), 2);
            Check.due("delivered at", x.packet(0, 5), 50);
            Check.due("dropped now", x.flow(0, 14), 0);
            Check.due("bytes", x.flow(0, 10), 10);
        });
        Edge.of(22, "Refunding a transmission: its charge is subtracted from the virtual time of the flow, and it"
                + " is not charged"
                + " any more.", () -> {
            PacketScheduler x = Check.loaded("flow 1 60000 retries 0; delay 50; timeout 1;");
            x.arrive(0, 0, 0, 1500);
            x.run(2);
            Check.due("charged", x.virtualTime(0), 1500 * SCALE);
            x.setWeight(0, 16);
            x.run(1);
            Check.due("the whole charge, whatever the weight is now", x.virtualTime(0), 0);
            Check.due("not charged any more", x.transmission(0, 4), 0);
        });
    }

    private static void retries() {
        for (int retries : new int[] {0, 1, 3, 9}) {
            PacketScheduler x = Check.loaded("flow 1 60000 retries " + retries + "; delay 50; timeout 1;");
            x.arrive(0, 0, 0, 10);
            x.run(1 + retries);
            Check.due("transmissions with " + retries + " retries", x.packet(0, 4), 1 + retries);
            Check.due("the last one is in flight", x.packet(0, 3), 1);
            x.run(1);
            Check.due("it was the last one", x.packet(0, 4), 1 + retries);
            Check.due("dropped", x.packet(0, 3), 3);
        }
        PacketScheduler x = Check.loaded("flow 1 60000; link 10; delay 50; timeout 2;");
        x.arrive(0, 0, 0, 10);
        x.arrive(0, 0, 0, 100);
        x.run(1);
        x.arrive(0, 0, 0, 1);
        x.run(1);
        Check.due("credit is saved", x.credit(), 10);
        x.run(1);
        Check.due("it came to the head and was sent at 2", x.transmission(1, 0), 0);
        Check.due("the others wait", x.queued(0, 0), 1);
        Check.due("the others wait", x.queued(0, 1), 2);
        // Delivered late at 4 while its second transmission is in flight: lost at 6, and not queued again.
        PacketScheduler y = Check.loaded("flow 1 60000; delay 4; timeout 3;");
        y.arrive(0, 0, 0, 10);
        y.run(5);
        Check.due("delivered", y.packet(0, 3), 2);
        Check.due("outstanding", y.outstanding(0), 1);
        y.run(2);
        Check.due("lost", y.transmission(1, 3), 2);
        Check.due("still delivered", y.packet(0, 3), 2);
        Check.due("not queued", y.queued(0, 0), NONE);
        Check.due("not sent again", y.packet(0, 4), 2);
    }
}

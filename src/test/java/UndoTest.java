/** Promises 31 to 36: formatted texts, undoing and the snapshot. */
public final class UndoTest {
    private static final int NONE = PacketScheduler.NONE;

    public static void main(String[] args) {
        formats();
        formatStays();
        undoesEach();
        atMostTen();
        errorsAreNotRecorded();
        snapshots();
        snapshotAndUndo();
        undoesEverything();
        Check.end("UndoTest");
    }

    private static void formats() {
        PacketScheduler x = Check.loaded("flow 1 60000 retries 0 loss 2; flow 1 60000; rule port 1 1 to 1; link 9000;");
        Check.missing("format(0)", () -> x.format(0));
        Check.due("there was no such call", x.formattedByte(0), NONE);
        x.run(500);
        x.arrive(0, 0, 0, 7);
        Check.due("format", Check.formatted(x, 0), "p0 f0 7 queued");
        x.arrive(0, 0, 0, 1500);
        x.arrive(0, 0, 1, 30);
        x.run(1);
        Check.due("format", Check.formatted(x, 2), "p2 f1 30 flying");
        x.run(9);
        Check.due("format", Check.formatted(x, 0), "p0 f0 7 at 502");
        Check.due("format", Check.formatted(x, 1), "p1 f0 1500 dropped");
        int[] wrong = {-1, 3, Integer.MIN_VALUE, Integer.MAX_VALUE};
        for (int packet : wrong) {
            Check.missing("format(" + packet + ")", () -> x.format(packet));
        }
        Check.due("the text before stays", x.formattedByte(1), (int) '1');
        Check.due("formattedByte(17)", x.formattedByte(17), (int) 'd');
        Check.due("formattedByte(18)", x.formattedByte(18), NONE);
        Check.due("formattedByte(-1)", x.formattedByte(-1), NONE);
        Check.due("formattedByte of the least", x.formattedByte(Integer.MIN_VALUE), NONE);
        Check.due("formattedByte of the greatest", x.formattedByte(Integer.MAX_VALUE), NONE);
        PacketScheduler full = Check.loaded("flow 1 60000; link 9000;");
        for (int i = 0; i < 100; i++) {
            full.arrive(0, 0, 0, 100);
        }
        Check.due("format", full.format(99), 17);
        Check.due("format", Check.formatted(full, 99), "p99 f0 100 queued");
    }

    private static void formatStays() {
        PacketScheduler x = Check.loaded("flow 1 60000;");
        x.arrive(0, 0, 0, 12);
        Check.due("format", x.format(0), 15);
        x.run(9);
        Check.due("as it was then", x.formattedByte(9), (int) 'q');
        x.undo();
        x.undo();
        Check.due("undoing leaves it", x.formattedByte(14), (int) 'd');
        Check.due("its end", x.formattedByte(15), NONE);
        Check.due("no operation", x.undoCount(), 0);
    }

    private static void undoesEach() {
        PacketScheduler x = Check.loaded("flow 3 60000; link 50;");
        Check.due("undo", x.undo(), NONE);
        x.arrive(1, 2, 3, 100);
        Check.due("undoCount", x.undoCount(), 1);
        x.run(4);
        x.setWeight(0, 9);
        x.run(0);
        x.setWeight(0, 9);
        Check.due("those that change nothing are recorded", x.undoCount(), 5);
        Check.due("undo", x.undo(), 4);
        Check.due("undo", x.undo(), 3);
        Check.due("weight", x.flow(0, 0), 9);
        Check.due("undo", x.undo(), 2);
        Check.due("weight", x.flow(0, 0), 3);
        Check.due("state", x.packet(0, 3), 2);
        Check.due("undo", x.undo(), 1);
        Check.due("state", x.packet(0, 3), 0);
        Check.due("clock", x.clock(), 0);
        Check.due("credit", x.credit(), 0);
        Check.due("transmissionCount", x.transmissionCount(), 0);
        Check.due("virtualTime", x.virtualTime(0), 0);
        Check.due("undo", x.undo(), 0);
        Check.due("packetCount", x.packetCount(), 0);
        Check.due("bytes", x.flow(0, 8), 0);
        Check.due("nothing to undo", x.undo(), NONE);
        Check.due("undoCount", x.undoCount(), 0);
        Check.due("the number is free again", x.arrive(0, 0, 0, 1), 0);
    }

    private static void atMostTen() {
        PacketScheduler x = Check.loaded("flow 1 60000;");
        for (int i = 1; i <= 25; i++) {
            x.arrive(0, 0, 0, i);
            Check.due("undoCount", x.undoCount(), Math.min(i, 10));
        }
        for (int left = 9; left >= 0; left--) {
            Check.due("undo", x.undo(), left);
            Check.due("packetCount", x.packetCount(), 15 + left);
        }
        Check.due("undo", x.undo(), NONE);
        Check.due("packetCount", x.packetCount(), 15);
        Check.due("the last one", x.packet(14, 1), 15);
        x.run(1);
        Check.due("undoCount", x.undoCount(), 1);
        Check.due("undo", x.undo(), 0);
        Check.due("clock", x.clock(), 0);
    }

    private static void errorsAreNotRecorded() {
        PacketScheduler x = Check.loaded("flow 1 10;");
        x.arrive(0, 0, 0, 10);
        x.arrive(0, 0, 0, 1);
        Check.answer(() -> x.arrive(0, 0, 0, 0));
        Check.answer(() -> x.run(-1));
        Check.answer(() -> x.setWeight(1, 1));
        Check.answer(() -> x.setWeight(0, 0));
        Check.due("undoCount", x.undoCount(), 1);
        Check.due("undo", x.undo(), 0);
        Check.due("packetCount", x.packetCount(), 0);
    }

    private static void snapshots() {
        PacketScheduler x = Check.loaded("flow 2 60000; link 100;");
        Check.due("there is no snapshot", x.restoreSnapshot(), false);
        x.arrive(0, 0, 0, 100);
        Check.due("undoCount", x.undoCount(), 1);
        Check.due("nothing changes without a snapshot", x.restoreSnapshot(), false);
        Check.due("undoCount", x.undoCount(), 1);
        x.saveSnapshot();
        Check.due("saving is no operation", x.undoCount(), 1);
        x.run(9);
        x.setWeight(0, 5);
        for (int i = 0; i < 2; i++) {
            Check.due("restoreSnapshot", x.restoreSnapshot(), true);
            Check.due("clock", x.clock(), 0);
            Check.due("weight", x.flow(0, 0), 2);
            Check.due("transmissionCount", x.transmissionCount(), 0);
            Check.due("queued", x.queued(0, 0), 0);
            Check.due("the history is cleared", x.undoCount(), 0);
            Check.due("undo", x.undo(), NONE);
            x.run(3);
            x.arrive(0, 0, 0, 9);
        }
        x.saveSnapshot();
        x.run(1);
        Check.due("the later one replaces the earlier", x.restoreSnapshot(), true);
        Check.due("clock", x.clock(), 3);
        Check.due("packetCount", x.packetCount(), 2);
        Check.load(x, "flow 1 1");
        Check.due("a text with an error leaves it", x.restoreSnapshot(), true);
        Check.load(x, "flow 1 1;");
        Check.due("a text discards it", x.restoreSnapshot(), false);
        PacketScheduler empty = new PacketScheduler();
        empty.saveSnapshot();
        empty.run(5);
        Check.due("a snapshot of nothing", empty.restoreSnapshot(), true);
        Check.due("clock", empty.clock(), 0);
    }

    private static void snapshotAndUndo() {
        PacketScheduler x = Check.loaded("flow 2 60000; link 100;");
        x.arrive(0, 0, 0, 100);
        x.arrive(0, 0, 0, 200);
        x.saveSnapshot();
        x.undo();
        x.arrive(0, 0, 0, 300);
        Check.due("the new packet", x.packet(1, 1), 300);
        x.restoreSnapshot();
        Check.due("the saved packet", x.packet(1, 1), 200);
        Check.due("bytes", x.flow(0, 8), 300);
        x.undo();
        Check.due("packetCount", x.packetCount(), 2);
    }

    /** A long run after a short one, undone, answers the same when it is run again. */
    private static void undoesEverything() {
        PacketScheduler x = Check.loaded("flow 1 60000 loss 3 late 2 9; flow 5 60000 burst 70; rule port 1 1 to 1;"
                + "link 130; delay 2; timeout 4;");
        for (int i = 0; i < 12; i++) {
            x.arrive(0, 0, i % 2, 90 + 7 * i);
        }
        x.run(6);
        String before = described(x);
        x.run(200);
        String after = described(x);
        Check.due("something changed", before.equals(after), false);
        x.undo();
        Check.due("undone", described(x), before);
        x.run(200);
        Check.due("run again", described(x), after);
        x.saveSnapshot();
        x.undo();
        Check.due("undone", described(x), before);
        x.restoreSnapshot();
        Check.due("restored", described(x), after);
    }

    private static String described(PacketScheduler x) {
        StringBuilder text = new StringBuilder();
        text.append(x.clock()).append(' ').append(x.credit()).append(' ').append(x.worst()).append(' ');
        text.append(x.spread()).append(' ').append(x.nextFlow()).append(' ').append(x.packetCount());
        for (int flow = 0; flow < x.flowCount(); flow++) {
            for (int what = 0; what < 16; what++) {
                text.append(' ').append(x.flow(flow, what));
            }
            text.append(' ').append(x.virtualTime(flow)).append(x.isIdle(flow)).append(x.outstanding(flow));
            text.append(' ').append(x.share(flow)).append(' ').append(x.meanDelay(flow));
        }
        for (int age = 0; age < 130; age++) {
            text.append(' ').append(x.audit(0, 1, age));
        }
        for (int packet = 0; packet < x.packetCount(); packet++) {
            text.append(' ').append(Check.formatted(x, packet)).append(x.forecast(packet, 100));
        }
        for (int number = 0; number < x.transmissionCount(); number++) {
            for (int what = 0; what < 5; what++) {
                text.append(' ').append(x.transmission(number, what));
            }
            text.append(' ').append(x.charge(number));
        }
        return text.toString();
    }
}

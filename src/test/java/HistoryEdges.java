/** Promises 33 to 36 at their boundaries: the ten undoings and the snapshot. */
final class HistoryEdges {
    private static final int NONE = PacketScheduler.NONE;

    private HistoryEdges() {
    }

    static void all() {
        undoCount();
        undo();
        saveSnapshot();
        restoreSnapshot();
    }

    private static PacketScheduler busy() {
        PacketScheduler x = Check.loaded("flow 1 60000 loss 3 late 2 9 retries 1; flow 5 60000 burst 70;"
                + "rule port 1 1 to 1; link 130; delay 2; timeout 4;");
        for (int i = 0; i < 12; i++) {
            x.arrive(i, 2 * i, i % 2, 90 + 7 * i);
        }
        x.run(6);
        return x;
    }

    /** The state with another number of operations that can be undone; it stands behind seven others. */
    private static String withUndoCount(PacketScheduler x, int count) {
        return Check.state(x).replaceFirst("^((?:[^ ]+ ){7})[^ ]+", "$1" + count);
    }

    private static void undoCount() {
        Edge.of(33, "Returns the number of operations that can be undone.", () -> {
            PacketScheduler x = Check.loaded("flow 1 60000;");
            Check.due("none", x.undoCount(), 0);
            for (int i = 1; i <= 25; i++) {
                x.run(1);
                Check.due("after " + i, x.undoCount(), Math.min(i, 10));
            }
            for (int left = 9; left >= 0; left--) {
                x.undo();
                Check.due("undoCount", x.undoCount(), left);
            }
            x.undo();
            Check.due("undoCount", x.undoCount(), 0);
        });
        Edge.of(33, "The 10 most recent operations can be undone, the most recent one first.", () -> {
            for (int operations : new int[] {1, 9, 10, 11, 19, 20, 21, 37}) {
                PacketScheduler x = Check.loaded("flow 1 60000;");
                for (int i = 1; i <= operations; i++) {
                    x.run(i);
                }
                int undone = 0;
                for (int i = operations; i > Math.max(operations - 10, 0); i--) {
                    int before = x.clock();
                    x.undo();
                    undone++;
                    Check.due("run(" + i + ") is undone", before - x.clock(), i);
                }
                Check.due("undone", undone, Math.min(operations, 10));
                Check.due("no more", x.undo(), NONE);
                x.run(500);
                Check.due("a new one", x.undo(), 0);
            }
        });
    }

    private static void undo() {
        Edge.of(34, "Undoes the most recent operation.", () -> {
            PacketScheduler x = busy();
            String[] states = new String[10];
            for (int i = 0; i < 10; i++) {
                states[i] = withUndoCount(x, 0);
                if (i % 3 == 0) {
                    x.run(1 + i);
                } else if (i % 3 == 1) {
                    x.setWeight(i % 2, 1 + i);
                } else {
                    x.arrive(i, i, i % 2, 100);
                }
            }
            for (int i = 9; i >= 0; i--) {
                x.undo();
                Check.due("the state before operation " + i, withUndoCount(x, 0), states[i]);
            }
        });
        Edge.of(34, "Undoing restores everything that the operation changed.", () -> {
            PacketScheduler x = busy();
            String before = withUndoCount(x, 0);
            x.run(200);
            String after = withUndoCount(x, 0);
            Check.due("something changed", after.equals(before), false);
            x.undo();
            Check.due("run is undone", withUndoCount(x, 0), before);
            x.run(200);
            Check.due("run again", withUndoCount(x, 0), after);
            x.undo();
            x.arrive(9, 9, 1, 1500);
            x.undo();
            Check.due("arrive is undone", withUndoCount(x, 0), before);
            x.setWeight(0, 16);
            x.undo();
            Check.due("setWeight is undone", withUndoCount(x, 0), before);
            x.run(200);
            Check.due("run again", withUndoCount(x, 0), after);
            nothingIsLeft();
        });
        Edge.of(34, "Returns the number of operations that can still be undone;", () -> {
            PacketScheduler x = busy();
            for (int left = 9; left >= 0; left--) {
                Check.due("undo", x.undo(), left);
            }
            x.run(1);
            x.run(1);
            Check.due("undo", x.undo(), 1);
            x.run(1);
            Check.due("undo", x.undo(), 1);
            Check.due("undo", x.undo(), 0);
        });
        Edge.of(34, "NONE if there was nothing to undo.", () -> {
            PacketScheduler x = new PacketScheduler();
            Check.due("a new object", x.undo(), NONE);
            x.arrive(0, 0, 0, 1);
            Check.due("a refused operation", x.undo(), NONE);
            Check.load(x, "flow 1 60000;");
            Check.due("a new text", x.undo(), NONE);
            x.run(5);
            x.saveSnapshot();
            x.undo();
            Check.due("all is undone", x.undo(), NONE);
            Check.unchanged("undo", x, x::undo);
            x.run(5);
            x.restoreSnapshot();
            Check.due("a restored snapshot", x.undo(), NONE);
            Check.due("nothing changes", x.clock(), 5);
        });
    }

    /** Packets and transmissions that were undone leave nothing to those that take their numbers. */
    private static void nothingIsLeft() {
        for (int ticks = 1; ticks < 12; ticks++) {
            PacketScheduler x = Check.loaded("flow 1 60000 late 2 3; link 100; delay 2; timeout 3;");
            x.arrive(0, 0, 0, 60);
            x.arrive(9, 9, 9, 30);
            x.arrive(9, 9, 9, 30);
            x.run(ticks);
            for (int i = 0; i < 4; i++) {
                x.undo();
            }
            PacketScheduler fresh = Check.loaded("flow 1 60000 late 2 3; link 100; delay 2; timeout 3;");
            Check.due("all is undone", Check.state(x), Check.state(fresh));
            for (int step = 0; step < 12; step++) {
                for (PacketScheduler each : new PacketScheduler[] {x, fresh}) {
                    if (step % 3 == 0) {
                        each.arrive(1, 2, 3, 70 + step);
                    }
                    each.run(1);
                }
                Check.due("after run(" + ticks + ") was undone, step " + step, Check.state(x), Check.state(fresh));
            }
        }
    }

    private static void saveSnapshot() {
        Edge.of(35, "Saves a snapshot of everything that undoing restores.", () -> {
            PacketScheduler x = busy();
            x.saveSnapshot();
            String saved = withUndoCount(x, 0);
            x.run(200);
            x.setWeight(0, 16);
            x.arrive(0, 0, 0, 7);
            x.restoreSnapshot();
            Check.due("all is restored", Check.state(x), saved);
            PacketScheduler y = busy();
            Check.unchanged("saveSnapshot", y, () -> {
                y.saveSnapshot();
                return 0;
            });
            PacketScheduler none = new PacketScheduler();
            none.saveSnapshot();
            none.run(5);
            Check.due("a snapshot of nothing", none.restoreSnapshot(), true);
            Check.due("the clock", none.clock(), 0);
        });
        Edge.of(35, "It replaces an earlier snapshot.", () -> {
            PacketScheduler x = Check.loaded("flow 1 60000;");
            x.saveSnapshot();
            x.run(3);
            x.saveSnapshot();
            x.run(4);
            x.restoreSnapshot();
            Check.due("the later one", x.clock(), 3);
            x.run(1);
            x.undo();
            x.restoreSnapshot();
            Check.due("the earlier one is gone", x.clock(), 3);
        });
    }

    private static void restoreSnapshot() {
        Edge.of(36, "Restores the snapshot and clears the undo history.", () -> {
            PacketScheduler x = busy();
            x.saveSnapshot();
            int clock = x.clock();
            x.run(7);
            Check.due("the history is full", x.undoCount(), 10);
            Check.due("restoreSnapshot", x.restoreSnapshot(), true);
            Check.due("the clock", x.clock(), clock);
            Check.due("undoCount", x.undoCount(), 0);
            Check.due("undo", x.undo(), NONE);
            x.run(1);
            Check.due("undoCount", x.undoCount(), 1);
        });
        Edge.of(36, "The snapshot is kept.", () -> {
            PacketScheduler x = busy();
            x.saveSnapshot();
            x.restoreSnapshot();
            String saved = Check.state(x);
            for (int times = 0; times < 3; times++) {
                x.run(50 * times);
                x.setWeight(1, 3);
                Check.due("restoreSnapshot", x.restoreSnapshot(), true);
                Check.due("the state", Check.state(x), saved);
            }
            Check.load(x, "flow");
            Check.due("kept after a text with an error", x.restoreSnapshot(), true);
        });
        Edge.of(36, "Returns true;", () -> {
            PacketScheduler x = new PacketScheduler();
            x.saveSnapshot();
            Check.due("with nothing changed since", x.restoreSnapshot(), true);
        });
        Edge.of(36, "false if there is no snapshot (nothing changes).", () -> {
            Check.due("a new object", new PacketScheduler().restoreSnapshot(), false);
            PacketScheduler x = busy();
            Check.due("none was saved", x.restoreSnapshot(), false);
            Check.unchanged("restoreSnapshot", x, x::restoreSnapshot);
            Check.due("the history stays", x.undo(), 9);
            x.saveSnapshot();
            Check.load(x, "flow 1 60000;");
            x.run(2);
            Check.due("a text discards it", x.restoreSnapshot(), false);
            Check.due("nothing changes", x.clock(), 2);
        });
    }
}

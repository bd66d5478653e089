/** Promises 1 to 4 at their boundaries: the new object, the buffer, tokens, the grammar of texts and its errors. */
final class LoadEdges {
    private static final int NONE = PacketScheduler.NONE;
    private static final int BLANKS = 0x20202020;
    private static final int[] FAR = {-1, Integer.MIN_VALUE, Integer.MAX_VALUE, 801, -20, 1 << 30};
    /** One above the greatest and numbers that come back into range where an int, a long or a cap wraps around. */
    private static final String[] HUGE = {"2147483648", "4294967296", "4294967297", "4294967298", "9223372036854775808",
        "18446744073709551617", "18446744073709551618", "1000000", "1000001", "10000000000000002",
        "340282366920938463463374607431768211458"};

    private LoadEdges() {
    }

    static void all() {
        newObject();
        feed();
        load();
        tokens();
        grammar();
        numbers();
        defaults();
        codes();
        errorPosition();
    }

    private static void fine(String text, int flows) {
        PacketScheduler x = new PacketScheduler();
        Check.due("load '" + text + "'", Check.load(x, text), flows);
        Check.due("the error position of '" + text + "'", x.errorPosition(), NONE);
    }

    private static void fault(String text, int code, int position) {
        PacketScheduler x = new PacketScheduler();
        Check.due("load '" + text + "'", Check.load(x, text), -10 - code);
        Check.due("the error position of '" + text + "'", x.errorPosition(), position);
    }

    private static void newObject() {
        Edge.of(1, "Creates a scheduler without flows, rules and packets.", () -> {
            PacketScheduler x = new PacketScheduler();
            Check.due("state", Check.state(x), "0 0 0 0 0 0 -1 0 -1 0 0 text ");
            Check.missing("flow(0, 0)", () -> x.flow(0, 0));
            Check.missing("packet(0, 0)", () -> x.packet(0, 0));
            Check.missing("transmission(0, 0)", () -> x.transmission(0, 0));
            Check.due("classify", x.classify(0, 0, 0), NONE);
        });
        Edge.of(1, "An object is used for at most 512 calls after it has been made;", () -> {
            PacketScheduler x = new PacketScheduler();
            for (int call = 1; call < 512; call++) {
                x.run(500);
            }
            Check.due("the 512th call", x.clock(), 511 * 500);
        });
        Edge.of(1, "`NONE = -1`", () -> Check.due("NONE", PacketScheduler.NONE, -1));
    }

    private static void feed() {
        Edge.of(2, "Appends 20 bytes to the buffer: the four bytes of each parameter, the most significant byte first.",
                LoadEdges::feedPlaces);
        Edge.of(2, "Returns the number of bytes in the buffer;", () -> {
            PacketScheduler x = new PacketScheduler();
            for (int calls = 1; calls <= 40; calls++) {
                Check.due("feed", x.feed(-1, 0, Integer.MIN_VALUE, Integer.MAX_VALUE, 1), 20 * calls);
            }
        });
        Edge.of(2, "NONE if it would exceed 800, and then nothing is appended.", () -> {
            PacketScheduler x = new PacketScheduler();
            Check.feed(x, Check.times(" ", 760));
            Check.due("to 780", x.feed(BLANKS, BLANKS, BLANKS, BLANKS, BLANKS), 780);
            Check.due("to just 800", x.feed(BLANKS, BLANKS, BLANKS, BLANKS, BLANKS), 800);
            Check.due("beyond 800", x.feed(0, 0, 0, 0, 0), NONE);
            Check.due("beyond 800 again", x.feed(-1, -1, -1, -1, -1), NONE);
            Check.refused("load(801)", () -> x.load(801));
            Check.due("the 800 bytes are what they were", x.load(800), 0);
            Check.due("there is room again", x.feed(0, 0, 0, 0, 0), 20);
        });
    }

    /** A byte that is no token of the grammar tells by the error position where it stands. */
    private static void feedPlaces() {
        for (int place = 0; place < 20; place++) {
            for (int sign : new int[] {0, '?', 127, 128, 255}) {
                int[] words = {BLANKS, BLANKS, BLANKS, BLANKS, BLANKS};
                int shift = 24 - 8 * (place % 4);
                words[place / 4] = BLANKS & ~(255 << shift) | sign << shift;
                PacketScheduler x = new PacketScheduler();
                x.feed(words[0], words[1], words[2], words[3], words[4]);
                Check.due("the byte " + sign + " at " + place, x.load(20), -11);
                Check.due("its position", x.errorPosition(), place);
                x.feed(words[0], words[1], words[2], words[3], words[4]);
                Check.due("the bytes before it", x.load(place), 0);
            }
        }
    }

    /** Something in every place that a text replaces, and an error position, a formatted text and a snapshot. */
    private static PacketScheduler used() {
        PacketScheduler x = Check.loaded("flow 3 60000 late 2 9; flow 2 60000; rule port 1 1 to 1; link 250; delay 1;"
                + "timeout 2;");
        for (int i = 0; i < 8; i++) {
            x.arrive(i, i, i % 2, 100 + i);
        }
        x.saveSnapshot();
        x.run(4);
        x.arrive(1, 2, 1, 1500);
        x.run(2);
        x.setWeight(0, 5);
        x.format(1);
        Check.load(x, "   ?");
        return x;
    }

    private static void load() {
        Edge.of(3, "which replaces everything: there are no packets and transmissions, the clock and the credit are 0,"
                + " and the undo history and the snapshot are discarded.", LoadEdges::loadReplaces);
        Edge.of(3, "The buffer is empty afterwards, also after an error.", () -> {
            String[] texts = {"", "link 1; ?", "?", "link 0;", Check.times("flow 1 1;", 7)};
            int[] lengths = {0, 7, 1, 7, 63};
            for (int i = 0; i < texts.length; i++) {
                PacketScheduler x = new PacketScheduler();
                Check.feed(x, texts[i] + "     ");
                x.load(lengths[i]);
                Check.refused("one byte more after '" + texts[i] + "'", () -> x.load(1));
                Check.due("feed after '" + texts[i] + "'", x.feed(BLANKS, BLANKS, BLANKS, BLANKS, BLANKS), 20);
                Check.due("what is there now", x.load(20), 0);
            }
        });
        Edge.of(3, "`length`: number of bytes to read", () -> {
            String text = "flow 1 60000;flow 2 1;x";
            int[] lengths = {0, 13, 22, 23, 12, 4, 6, 3};
            int[] answers = {0, 1, 2, -11, -11, -11, -11, -11};
            int[] positions = {NONE, NONE, NONE, 22, 12, 4, 6, 0};
            for (int i = 0; i < lengths.length; i++) {
                PacketScheduler x = new PacketScheduler();
                Check.feed(x, text);
                Check.due("load(" + lengths[i] + ")", x.load(lengths[i]), answers[i]);
                Check.due("its error position", x.errorPosition(), positions[i]);
            }
            PacketScheduler cut = new PacketScheduler();
            Check.feed(cut, "link 9001;");
            Check.due("a number that is cut is a smaller one", cut.load(8), -11);
            Check.due("its error position", cut.errorPosition(), 8);
            Check.feed(cut, "link 9001;");
            Check.due("the whole number", cut.load(9), -12);
        });
        Edge.of(3, "Returns the number of flows;", () -> {
            for (int flows = 0; flows <= 6; flows++) {
                fine(Check.times("flow 1 1;", flows), flows);
            }
        });
        Edge.of(3, "-10 minus the error code if the text has an error (then only the buffer and the error position"
                + " change).", LoadEdges::loadErrors);
        Edge.of(3, "Throws `IllegalArgumentException` if length is negative or greater than the number of bytes in the"
                + " buffer (nothing changes)", LoadEdges::loadRefuses);
    }

    private static void loadReplaces() {
        String[] texts = {"flow 3 60000; flow 2 60000; flow 1 1;", "flow 7 900;", "flow 1 60000; delay 9; timeout"
                + " 3;", ""};
        for (String text : texts) {
            PacketScheduler x = used();
            PacketScheduler fresh = new PacketScheduler();
            String formatted = Check.formatted(x, 1);
            Check.due("there is credit to be lost", x.credit() > 0, true);
            Check.load(x, text);
            Check.load(fresh, text);
            Check.due("all but the formatted text", Check.state(x).replace(formatted, ""), Check.state(fresh));
            Check.due("undo", x.undo(), NONE);
            Check.due("restoreSnapshot", x.restoreSnapshot(), false);
            for (int step = 0; step < 40; step++) {
                int ticks = step % 4;
                for (PacketScheduler each : new PacketScheduler[] {x, fresh}) {
                    each.arrive(step, 255, step % 2, 10 * step + 1);
                    each.run(ticks);
                }
                Check.due("what comes then, " + step, Check.state(x).replace(formatted, ""), Check.state(fresh));
            }
        }
        recordsAreReplaced();
    }

    /** 128 records in which both flows wait, and then a text with records of its own. */
    private static void recordsAreReplaced() {
        String text = "flow 1 60000; flow 1 60000; rule port 1 1 to 1; link 2;";
        PacketScheduler x = Check.loaded(text);
        for (int texts = 0; texts < 2; texts++) {
            x.arrive(0, 0, 0, 4);
            x.arrive(0, 0, 0, 1500);
            x.arrive(0, 0, 1, 1500);
            Check.due("no record", x.audit(0, 1, 0), NONE);
            x.run(1);
            Check.due("one record", x.audit(0, 1, 0), 0);
            Check.due("no second one", x.audit(0, 1, 1), NONE);
            Check.due("worst", x.worst(), 0);
            x.run(2);
            Check.due("three records", x.audit(0, 1, 2), 0);
            Check.due("no fourth one", x.audit(0, 1, 3), NONE);
            x.run(125 + texts);
            Check.load(x, text);
        }
    }

    private static void loadErrors() {
        String[] texts = {"flow 1 1", "flow 1 1; flow 1 0;", Check.times("flow 1 1;", 6) + "flow"};
        int[] positions = {8, 17, 54};
        for (int code = 1; code <= 3; code++) {
            PacketScheduler x = used();
            String before = Check.state(x);
            int undone = x.undoCount();
            Check.due("load", Check.load(x, texts[code - 1]), -10 - code);
            Check.due("the error position changes", x.errorPosition(), positions[code - 1]);
            Check.load(x, "   ?");
            Check.due("all else", Check.state(x), before);
            Check.due("the history", x.undo(), undone - 1);
            Check.due("the weight before", x.flow(0, 0), 3);
            Check.due("the snapshot", x.restoreSnapshot(), true);
            Check.due("the clock of the snapshot", x.clock(), 0);
            Check.due("the delay", x.run(2) > 0, true);
        }
    }

    private static void loadRefuses() {
        PacketScheduler x = used();
        Check.refused("load(1) of an empty buffer", () -> x.load(1));
        Check.feed(x, "flow 1 1;           ");
        for (int length : FAR) {
            Check.refused("load(" + length + ")", () -> x.load(length));
            Check.unchanged("load(" + length + ")", x, () -> x.load(length));
        }
        Check.refused("load(21) of 20 bytes", () -> x.load(21));
        Check.due("the snapshot is there", x.restoreSnapshot(), true);
        Check.due("the buffer is what it was", x.feed(BLANKS, BLANKS, BLANKS, BLANKS, BLANKS), 40);
        Check.due("load(40) of 40 bytes", x.load(40), 1);
    }

    private static void tokens() {
        Edge.of(3, "The text comes from a byte buffer.", () -> {
            PacketScheduler x = new PacketScheduler();
            Check.due("an empty buffer is an empty text", x.load(0), 0);
            String text = Check.times(" ", 787) + "flow 1 60000;";
            Check.due("a full buffer is a text of 800 bytes", Check.load(x, text), 1);
        });
        Edge.of(3, "Tokens: a word is a maximal run of the letters 'a' to 'z';", () -> {
            fine("flow1 1;", 1);
            fault("flowa 1 1;", 1, 0);
            fault("glow 1 1;", 1, 0);
            fault("flox 1 1;", 1, 0);
            fault("flo w 1 1;", 1, 0);
            fault("aflow 1 1;", 1, 0);
            fault("zflow 1 1;", 1, 0);
            fault("flow`1 1;", 1, 4);
            fault("flow{1 1;", 1, 4);
            fault("Flow 1 1;", 1, 0);
            fault("flOw 1 1;", 1, 0);
            fault("flow 1 1 burstretries 1;", 1, 9);
        });
        Edge.of(3, "a number is a maximal run of decimal digits (leading zeros are allowed);", () -> {
            fine("flow 0016 00060000;", 1);
            fine("flow " + Check.times("0", 700) + "1 1;", 1);
            fine("flow 1 1 burst 0 retries 00 loss 02 late 002 0001;", 1);
            fault("flow 1 6 1;", 1, 9);
            fault("flow 17 1;", 2, 5);
            fault("flow /1 1;", 1, 5);
            fault("flow :1 1;", 1, 5);
            fault("flow 1/ 1;", 1, 6);
            fault("flow 1: 1;", 1, 6);
            fault("flow " + Check.times("0", 700) + "17 1;", 2, 5);
            fault("flow 0000 1;", 2, 5);
        });
        Edge.of(3, "every other byte except space (32) and line feed (10) is a token by itself.",
                LoadEdges::everyByte);
        Edge.of(3, "Spaces and line feeds may appear between tokens.", () -> {
            fine("flow1 1;rule to0;link1;delay1;timeout1;", 1);
            fine(" \n flow \n\n 1\n1 \n; \n ", 1);
            fine("\n\n   ", 0);
            fault("fl\now 1 1;", 1, 0);
            fault("flow 1\n6 1;", 1, 9);
        });
    }

    /** Between 'flow' and '1' a byte is a letter of the word, a digit of the number, a blank, or a wrong token. */
    private static void everyByte() {
        for (int sign = 0; sign < 256; sign++) {
            String text = "flow" + (char) sign + "1 1;";
            if (sign == 32 || sign == 10 || sign == '0' || sign == '1') {
                fine(text, 1);
            } else if (sign >= '0' && sign <= '9') {
                fault(text, 2, 4);
            } else if (sign >= 'a' && sign <= 'z') {
                fault(text, 1, 0);
            } else {
                fault(text, 1, 4);
            }
            boolean stands = sign == 32 || sign == 10;
            if (stands) {
                fine("flow 1 1;" + (char) sign + (char) sign, 1);
            } else {
                fault("flow 1 1;" + (char) sign + (char) sign, 1, 9);
            }
        }
        fault("flow 1 1;;", 1, 9);
        fault("flow 1 1 ;;", 1, 10);
    }

    private static void grammar() {
        Edge.of(3, "text: clause*", () -> {
            fine("", 0);
            String most = Check.times("link 1;", 113) + "link 77;";
            PacketScheduler x = new PacketScheduler();
            Check.due("114 clauses in 799 bytes", Check.load(x, most), 0);
            fault("1", 1, 0);
            fault(";", 1, 0);
            fault("burst 1;", 1, 0);
            fault("to 0;", 1, 0);
            fault("many 1=1", 1, 0);
        });
        Edge.of(3, "option* ';'", () -> {
            fine("flow 1 1;", 1);
            fine("flow 1 1" + Check.times("loss2", 158) + ";", 1);
            fault("flow 1 1 link 1;", 1, 9);
            fault("flow 1 1 to 0;", 1, 9);
            fault("flow 1 1 ( ;", 1, 9);
            fault("flow 1 1 burst ;", 1, 15);
            fault("flow 1 1 late 2 loss 2;", 1, 16);
            fault("flow ;", 1, 5);
            fault("flow 1;", 1, 6);
        });
        Edge.of(3, "'rule' condition* 'to' flow ';'", () -> {
            fine("flow 1 1;rule to 0;", 1);
            fine("flow 1 1;rule" + Check.times(" port 1 1", 86) + " to 0;", 1);
            fault("flow 1 1;rule;", 1, 13);
            fault("flow 1 1;rule 0;", 1, 14);
            fault("flow 1 1;rule to;", 1, 16);
            fault("flow 1 1;rule to to 0;", 1, 17);
            fault("flow 1 1;rule to 0 0;", 1, 19);
            fault("flow 1 1;rule flow 0 0 to 0;", 1, 14);
        });
        Edge.of(3, "condition: ('source' | 'target' | 'port')", () -> {
            fine("flow 1 1;rule source 0 0 target 0 0 port 0 0 to 0;", 1);
            fault("flow 1 1;rule source to 0;", 1, 21);
            fault("flow 1 1;rule target 1 to 0;", 1, 23);
            fault("flow 1 1;rule port 1 2 3 to 0;", 1, 23);
            fault("flow 1 1;rule size 1 2 to 0;", 1, 14);
        });
        Edge.of(3, "'link' rate (1 to 9000)", () -> setting("link", 9000));
        Edge.of(3, "'delay' ticks (1 to 50)", () -> setting("delay", 50));
        Edge.of(3, "'timeout' ticks (1 to 200)", () -> setting("timeout", 200));
    }

    private static void setting(String word, int most) {
        range(word + " ", ";", 1, most, 0);
        fault(word, 1, word.length());
        fault(word + ";", 1, word.length());
        fault(word + " 1", 1, word.length() + 2);
        fault(word + " 1 1;", 1, word.length() + 3);
        fault(word + " " + word + " 1;", 1, word.length() + 1);
    }

    /** A number between two parts of a text that is fine: both ends of its range and what lies beyond them. */
    private static void range(String before, String behind, int least, int most, int flows) {
        fine(before + least + behind, flows);
        fine(before + most + behind, flows);
        fine(before + "000" + most + behind, flows);
        fault(before + (most + 1) + behind, 2, before.length());
        fault(before + (most + 1) + "0" + behind, 2, before.length());
        if (least > 0) {
            fault(before + (least - 1) + behind, 2, before.length());
        }
        for (String huge : HUGE) {
            fault(before + huge + behind, 2, before.length());
        }
        fault(before + "-1" + behind, 1, before.length());
        fault(before + "x" + behind, 1, before.length());
        fault(before, 1, before.length());
    }

    private static void numbers() {
        Edge.of(3, "'flow' weight (1 to 16)", () -> range("flow ", " 1;", 1, 16, 1));
        Edge.of(3, "limit (1 to 60000)", () -> range("flow 1 ", ";", 1, 60000, 1));
        Edge.of(3, "'burst' bytes (0 to 20000)", () -> range("flow 1 1 burst ", ";", 0, 20000, 1));
        Edge.of(3, "'retries' n (0 to 9)", () -> range("flow 1 1 retries ", ";", 0, 9, 1));
        Edge.of(3, "'loss' n (2 to 99)", () -> range("flow 1 1 loss ", ";", 2, 99, 1));
        Edge.of(3, "'late' n (2 to 99)", () -> range("flow 1 1 late ", " 1;", 2, 99, 1));
        Edge.of(3, "'late' n (2 to 99) ticks (1 to 200)", () -> range("flow 1 1 late 2 ", ";", 1, 200, 1));
        Edge.of(3, "least (0 to 255)", () -> {
            for (String name : new String[] {"source", "target", "port"}) {
                range("flow 1 1;rule " + name + " ", " 255 to 0;", 0, 255, 1);
            }
        });
        Edge.of(3, "greatest (the least one to 255)", () -> {
            for (String name : new String[] {"source", "target", "port"}) {
                range("flow 1 1;rule " + name + " 0 ", " to 0;", 0, 255, 1);
                range("flow 1 1;rule " + name + " 7 ", " to 0;", 7, 255, 1);
                range("flow 1 1;rule " + name + " 255 ", " to 0;", 255, 255, 1);
            }
        });
        Edge.of(3, "A flow is the number of one that is defined before.", () -> {
            range("flow 1 1;rule to ", ";", 0, 0, 1);
            range("flow 1 1;flow 1 1;rule to ", ";", 0, 1, 2);
            range(Check.times("flow 1 1;", 6) + "rule to ", ";", 0, 5, 6);
            fault("rule to 0;", 2, 8);
            fault("rule to 0;flow 1 1;", 2, 8);
            fault("flow 1 1;rule to 1;flow 1 1;", 2, 17);
            PacketScheduler x = Check.loaded("flow 1 1;flow 1 1;");
            Check.due("flows of an earlier text are none", Check.load(x, "flow 1 1;rule to 1;"), -12);
        });
    }

    private static void defaults() {
        Edge.of(3, "Without their clauses the rate is 1000, the delay 2 and the timeout 5;", () -> {
            PacketScheduler x = Check.loaded("flow 1 60000 loss 2;link 1;delay 9;timeout 1;");
            for (String text : new String[] {"link 1;", "delay 9;", "timeout 1;"}) {
                Check.load(x, "flow 1 60000;" + text);
            }
            Check.load(x, "flow 1 60000 loss 2;");
            x.arrive(0, 0, 0, 400);
            x.arrive(0, 0, 0, 600);
            x.arrive(0, 0, 0, 1);
            x.run(1);
            Check.due("1000 bytes are sent in a tick, no more", x.transmissionCount(), 2);
            Check.due("the acknowledgment tick", x.transmission(0, 2), 2);
            x.run(4);
            Check.due("not lost at 4", x.transmission(1, 3), 0);
            x.run(1);
            Check.due("lost at 5", x.transmission(1, 3), 2);
        });
        Edge.of(3, "without their options the burst is 0 and the retries are 3.", () -> {
            PacketScheduler x = new PacketScheduler();
            for (int texts = 0; texts < 3; texts++) {
                Check.load(x, Check.times("flow 2 3 burst 4 retries 5 loss 6 late 7 8;", 3));
            }
            for (int texts = 0; texts < 3; texts++) {
                Check.load(x, "flow 1 60000; flow 2 9 burst 4 retries 5 loss 6 late 7 8; flow 1 60000;");
                for (int flow = 0; flow < 3; flow += 2) {
                    int[] settings = {1, 60000, 0, 3, 0, 0, 0};
                    for (int what = 0; what < settings.length; what++) {
                        Check.due("flow(" + flow + ", " + what + ")", x.flow(flow, what), settings[what]);
                    }
                }
            }
        });
        Edge.of(3, "If an option, a condition or one of the clauses 'link', 'delay' and 'timeout' is repeated, the last"
                + " occurrence counts.", LoadEdges::repeated);
    }

    private static void repeated() {
        PacketScheduler x = Check.loaded("link 9000;flow 1 60000 burst 9 loss 9 retries 9 late 9 9 late 2 3 burst 0"
                + " retries 0 loss 2;link 40;delay 50;delay 3;timeout 200;timeout 4;");
        int[] settings = {1, 60000, 0, 0, 2, 2, 3};
        for (int what = 0; what < settings.length; what++) {
            Check.due("flow(0, " + what + ")", x.flow(0, what), settings[what]);
        }
        x.arrive(0, 0, 0, 40);
        x.arrive(0, 0, 0, 40);
        x.run(1);
        Check.due("the rate", x.transmissionCount(), 1);
        Check.due("the delay", x.transmission(0, 2), 3);
        x.run(4);
        Check.due("not lost before the timeout", x.flow(0, 11), 0);
        x.run(1);
        Check.due("lost at the timeout", x.flow(0, 11), 1);
        PacketScheduler y = Check.loaded("flow 1 1;flow 1 1;rule source 1 2 port 5 5 target 9 9 source 3 4 port 0 255"
                + " target 8 8 to 1;");
        Check.due("the last source", y.classify(3, 8, 0), 1);
        Check.due("the greatest of the last", y.classify(4, 8, 255), 1);
        Check.due("the first source", y.classify(2, 8, 5), 0);
        Check.due("the first target", y.classify(3, 9, 5), 0);
        fault("flow 1 1 loss 1 loss 2;", 2, 14);
        fault("link 0;link 1;", 2, 5);
    }

    private static void codes() {
        Edge.of(3, "The text is checked token by token, and the first token with an error determines the"
                + " result.", () -> {
            fault("flow 0 0 x", 2, 5);
            fault("flow 1 0 x", 2, 7);
            fault("flow x 0;", 1, 5);
            fault("link 0 link", 2, 5);
            fault("link 1 0;", 1, 7);
            fault("? link 0;", 1, 0);
            fault(Check.times("flow 1 1;", 6) + "link 0;flow 1 1;", 2, 59);
            fault(Check.times("flow 1 1;", 6) + "flow 0 1;", 3, 54);
            fault(Check.times("flow 1 1;", 6) + "; flow 1 1;", 1, 54);
        });
        Edge.of(3, "If several codes apply to one token, the smallest one counts.", () -> {
            fault(Check.times("flow 1 1;", 5) + "flow 1 1 flow", 1, 54);
            fault(Check.times("flow 1 1;", 6) + "rule flow", 1, 59);
            fault("flow 1 1;" + Check.times("rule to 0;", 11) + "rule rule", 1, 124);
            fault("flow 1 1 60001;", 1, 9);
            fault("flow 1 1;rule 256 to 0;", 1, 14);
            fault("99999999999;", 1, 0);
        });
        Edge.of(3, "the token is not allowed here, or the text ends too early (the position is then the length of the"
                + " text).", LoadEdges::endsTooEarly);
        Edge.of(3, "a number is out of range.", () -> {
            fault("flow 0 1;", 2, 5);
            fault("flow 1 0;", 2, 7);
            fault("flow 00000000000000000017 1;", 2, 5);
            for (String huge : HUGE) {
                fault("flow 1 1;rule port " + huge + " 255 to 0;", 2, 19);
                fault("flow 1 1 retries " + huge + ";", 2, 17);
            }
        });
        Edge.of(3, "the keyword of the seventh flow or of the thirteenth rule;", () -> {
            String six = Check.times("flow 1 1;", 6);
            String twelve = "flow 1 1;" + Check.times("rule to 0;", 12);
            fine(six, 6);
            fine(twelve, 1);
            fine(six + Check.times("rule to 5;", 12) + "link 1;", 6);
            fault(six + "flow 1 1;", 3, 54);
            fault(six + "  flow", 3, 56);
            fault(twelve + "rule to 0;", 3, 129);
            fault(twelve + "\nrule", 3, 130);
            PacketScheduler x = Check.loaded(six);
            Check.due("each text has its own six", Check.load(x, six), 6);
        });
    }

    /** Of a text with every clause, each part that ends behind a token is fine or ends too early. */
    private static void endsTooEarly() {
        String text = "flow 1 2 burst 3 retries 4 loss 5 late 6 7 ; rule source 8 9 target 1 2 port 3 4 to 0 ; link 5 ;"
                + " delay 6 ; timeout 7 ; ";
        int flows = 0;
        for (int length = 0; length < text.length(); length++) {
            if (text.charAt(length) == ' ') {
                String part = text.substring(0, length);
                if (part.endsWith(";")) {
                    flows = 1;
                    fine(part, flows);
                    fine(part + "  ", flows);
                } else {
                    fault(part, 1, length);
                    fault(part + "  \n", 1, length + 3);
                    fault(part + " ?", 1, length + 1);
                }
            }
        }
        fault("f", 1, 0);
        fault("flow 1 1;?", 1, 9);
    }

    private static void errorPosition() {
        Edge.of(4, "Returns the position of the first byte of the token with the error, for the most recent call of"
                + " load"
                + " or query that read the buffer;", () -> {
            PacketScheduler x = new PacketScheduler();
            Check.load(x, "?");
            Check.due("at the first byte", x.errorPosition(), 0);
            Check.load(x, Check.times(" ", 799) + "?");
            Check.due("at the last byte of a full buffer", x.errorPosition(), 799);
            Check.load(x, Check.times(" ", 787) + "flow 1 60000 ");
            Check.due("at the end of a full buffer", x.errorPosition(), 800);
            Check.load(x, "flow 1 1 wrong 5;");
            Check.due("the first byte of a word", x.errorPosition(), 9);
            Check.load(x, "flow 1 6000000;");
            Check.due("the first byte of a number", x.errorPosition(), 7);
            Check.query(x, "many size = 1 sizes");
            Check.due("of a query", x.errorPosition(), 14);
            Check.refused("load(1)", () -> x.load(1));
            Check.refused("query(1)", () -> x.query(1));
            Check.due("refused calls read nothing", x.errorPosition(), 14);
            x.run(1);
            x.undo();
            x.saveSnapshot();
            x.restoreSnapshot();
            x.feed(0, 0, 0, 0, 0);
            Check.due("other calls leave it", x.errorPosition(), 14);
        });
        Edge.of(4, "NONE if that text had no error, or if there was no such call.", () -> {
            PacketScheduler x = new PacketScheduler();
            Check.due("no call", x.errorPosition(), NONE);
            Check.refused("load(1)", () -> x.load(1));
            Check.refused("query(201)", () -> x.query(201));
            x.feed(0, 0, 0, 0, 0);
            Check.due("no call that read", x.errorPosition(), NONE);
            Check.due("an error", x.load(20), -11);
            Check.due("its position", x.errorPosition(), 0);
            x.load(0);
            Check.due("a text without an error", x.errorPosition(), NONE);
            Check.load(x, "?");
            Check.query(x, "many 1 = 1");
            Check.due("a query without an error", x.errorPosition(), NONE);
        });
    }
}

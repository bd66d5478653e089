/** Promises 1 to 6, 11 and 37: the buffer, texts, rules, queries and their errors. */
public final class ReadingTest {
    private static final int NONE = PacketScheduler.NONE;
    private static final int HIDDEN = PacketScheduler.HIDDEN;

    public static void main(String[] args) {
        newObject();
        feed();
        loadDefaults();
        loadReplacesEverything();
        loadRefuses();
        tokens();
        notAllowed();
        outOfRange();
        tooMany();
        errorPosition();
        classify();
        queries();
        queryErrors();
        queryRefuses();
        Check.end("ReadingTest");
    }

    private static void newObject() {
        PacketScheduler x = new PacketScheduler();
        Check.due("flowCount", x.flowCount(), 0);
        Check.due("ruleCount", x.ruleCount(), 0);
        Check.due("packetCount", x.packetCount(), 0);
        Check.due("transmissionCount", x.transmissionCount(), 0);
        Check.due("clock", x.clock(), 0);
        Check.due("credit", x.credit(), 0);
        Check.due("errorPosition", x.errorPosition(), NONE);
        Check.due("nextFlow", x.nextFlow(), NONE);
        Check.due("worst", x.worst(), 0);
        Check.due("spread", x.spread(), 0);
        Check.due("undoCount", x.undoCount(), 0);
        Check.due("undo", x.undo(), NONE);
        Check.due("restoreSnapshot", x.restoreSnapshot(), false);
        Check.due("formattedByte", x.formattedByte(0), NONE);
        Check.due("run without flows", x.run(3), 0);
        Check.due("clock after it", x.clock(), 3);
        Check.due("credit after it", x.credit(), 0);
    }

    private static void feed() {
        PacketScheduler x = new PacketScheduler();
        for (int calls = 1; calls <= 40; calls++) {
            Check.due("feed", x.feed(0x20202020, 0x20202020, 0x20202020, 0x20202020, 0x20202020), 20 * calls);
        }
        Check.due("feed beyond 800", x.feed(0, 0, 0, 0, 0), NONE);
        Check.due("nothing was appended", x.load(800), 0);
        Check.due("the buffer is empty", x.feed(0, 0, 0, 0, 0), 20);

        PacketScheduler y = new PacketScheduler();
        y.feed('f' << 24 | 'l' << 16 | 'o' << 8 | 'w', '1' << 24 | ' ' << 16 | '2' << 8 | ';', -1, 0x80000000, 0xff);
        Check.due("the most significant byte comes first", y.load(8), 1);
        Check.due("weight", y.flow(0, 0), 1);
        y.feed(0x20202020, 0xff202020, 0, 0, 0);
        Check.due("byte 255 is a token", y.load(8), -11);
        Check.due("its position", y.errorPosition(), 4);
    }

    private static void loadDefaults() {
        PacketScheduler x = Check.loaded("flow 7 60000;");
        int[] settings = {7, 60000, 0, 3, 0, 0, 0};
        for (int what = 0; what < settings.length; what++) {
            Check.due("flow(0, " + what + ")", x.flow(0, what), settings[what]);
        }
        for (int i = 0; i < 3; i++) {
            x.arrive(0, 0, 0, 600);
        }
        x.run(1);
        Check.due("the rate is 1000", x.credit(), 400);
        Check.due("the delay is 2", x.transmission(0, 2), 2);
        PacketScheduler lossy = Check.loaded("flow 1 60000 loss 2; delay 50;");
        lossy.arrive(0, 0, 0, 1);
        lossy.run(5);
        Check.due("not lost before 5 ticks", lossy.flow(0, 11), 0);
        lossy.run(1);
        Check.due("the timeout is 5", lossy.flow(0, 11), 1);

        PacketScheduler y = Check.loaded("flow 16 1 burst 20000 retries 9 loss 99 late 99 200;"
                + "flow 1 60000 late 2 1 burst 0 retries 0 loss 2 late 3 4 burst 5 retries 6 loss 7;"
                + "link 9000;delay 50;timeout 200;link 1;delay 1;timeout 1;");
        int[] first = {16, 1, 20000, 9, 99, 99, 200};
        int[] last = {1, 60000, 5, 6, 7, 3, 4};
        for (int what = 0; what < 7; what++) {
            Check.due("flow(0, " + what + ")", y.flow(0, what), first[what]);
            Check.due("the last occurrence counts, flow(1, " + what + ")", y.flow(1, what), last[what]);
        }
        y.arrive(0, 0, 0, 1);
        y.run(1);
        Check.due("rate 1 is enough", y.transmissionCount(), 1);
        Check.due("delay 1", y.transmission(0, 2), 1);
    }

    private static void loadReplacesEverything() {
        PacketScheduler x = Check.loaded("flow 1 60000; rule to 0; link 100;");
        x.arrive(0, 0, 0, 50);
        x.arrive(0, 0, 0, 150);
        x.run(1);
        x.format(0);
        x.saveSnapshot();
        Check.due("a text with an error", Check.load(x, "flow 1 60000; flow 0 1;"), -12);
        Check.due("its position", x.errorPosition(), 19);
        int[] before = {x.flowCount(), x.ruleCount(), x.packetCount(), x.transmissionCount(), x.clock(), x.credit(),
            x.undoCount()};
        int[] kept = {1, 1, 2, 1, 1, 50, 3};
        for (int i = 0; i < kept.length; i++) {
            Check.due("kept after an error, " + i, before[i], kept[i]);
        }
        Check.due("a text without an error", Check.load(x, "flow 2 900;flow 3 8;"), 2);
        int[] after = {x.flowCount(), x.ruleCount(), x.packetCount(), x.transmissionCount(), x.clock(), x.credit(),
            x.undoCount(), x.undo(), x.nextFlow(), x.errorPosition(), x.flow(0, 7), x.flow(0, 8), x.flow(0, 9)};
        int[] fresh = {2, 0, 0, 0, 0, 0, 0, NONE, NONE, NONE, 0, 0, 0};
        for (int i = 0; i < fresh.length; i++) {
            Check.due("replaced, " + i, after[i], fresh[i]);
        }
        Check.due("virtual time", x.virtualTime(0), 0);
        Check.due("the snapshot is discarded", x.restoreSnapshot(), false);
        Check.due("records are discarded", x.audit(0, 1, 0), NONE);
        Check.due("the formatted text stays", x.formattedByte(0), (int) 'p');
        x.arrive(0, 0, 0, 900);
        x.run(1);
        Check.due("the rate is 1000 again", x.transmissionCount(), 1);
    }

    private static void loadRefuses() {
        PacketScheduler x = new PacketScheduler();
        Check.refused("load(-1)", () -> x.load(-1));
        Check.refused("load(1) of nothing", () -> x.load(1));
        Check.refused("load of the least number", () -> x.load(Integer.MIN_VALUE));
        Check.refused("load of the greatest number", () -> x.load(Integer.MAX_VALUE));
        Check.due("load(0)", x.load(0), 0);
        Check.feed(x, "flow 1 1; x");
        Check.refused("load(21)", () -> x.load(21));
        Check.due("nothing changed", x.feed(0, 0, 0, 0, 0), 40);
        Check.due("only the first bytes are read", x.load(9), 1);
        Check.refused("the rest is gone", () -> x.load(1));
        Check.feed(x, "x");
        Check.due("an error", x.load(1), -11);
        Check.refused("the buffer is empty after an error", () -> x.load(1));
        Check.due("a refused call leaves the position", x.errorPosition(), 0);
    }

    private static void tokens() {
        String[] fine = {"flow1 1;", "flow\n1\n1\n;", "  flow 0001 000000000000000000001;  ", "flow 1 1loss2;",
            "flow 1 1 burst0retries 0late2 1;", "flow 16 60000;link 9000;delay 50;timeout 200;"};
        for (String text : fine) {
            Check.due("load " + text, Check.load(new PacketScheduler(), text), 1);
        }
        Check.due("an empty text", Check.load(new PacketScheduler(), "  \n "), 0);
    }

    private static void fault(String text, int code, int position) {
        PacketScheduler x = new PacketScheduler();
        Check.due("load " + text, Check.load(x, text), -10 - code);
        Check.due("the position in " + text, x.errorPosition(), position);
    }

    private static void notAllowed() {
        fault("x", 1, 0);
        fault("  flows 1 1;", 1, 2);
        fault("Flow 1 1;", 1, 0);
        fault("flow\t1 1;", 1, 4);
        fault("flow\r1 1;", 1, 4);
        fault("flow 1;", 1, 6);
        fault("flow 1 1", 1, 8);
        fault("flow 1 1   ", 1, 11);
        fault("flow", 1, 4);
        fault("flow 1 1 1;", 1, 9);
        fault("flow 1 1 delay 1;", 1, 9);
        fault("flow 1 1 burst;", 1, 14);
        fault("flow 1 1 late 2;", 1, 15);
        fault("flow 1 1;;", 1, 9);
        fault("flow -1 1;", 1, 5);
        fault("flow 1 1; rule port 1 to 0;", 1, 22);
        fault("flow 1 1; rule burst 1 2 to 0;", 1, 15);
        fault("flow 1 1; rule to;", 1, 17);
        fault("flow 1 1; rule 0;", 1, 15);
        fault("flow 1 1; rule to 0 port 1 2;", 1, 20);
        fault("link;", 1, 4);
        fault("delay 1 2;", 1, 8);
        fault("timeout", 1, 7);
        fault("flow 1 1;\u0000", 1, 9);
        fault("7", 1, 0);
    }

    private static void outOfRange() {
        fault("flow 0 1;", 2, 5);
        fault("flow 17 1;", 2, 5);
        fault("flow 1 0;", 2, 7);
        fault("flow 1 60001;", 2, 7);
        fault("flow 1 1 burst 20001;", 2, 15);
        fault("flow 1 1 retries 10;", 2, 17);
        fault("flow 1 1 loss 1;", 2, 14);
        fault("flow 1 1 loss 100;", 2, 14);
        fault("flow 1 1 late 1 1;", 2, 14);
        fault("flow 1 1 late 100 1;", 2, 14);
        fault("flow 1 1 late 2 0;", 2, 16);
        fault("flow 1 1 late 2 201;", 2, 16);
        fault("link 0;", 2, 5);
        fault("link 9001;", 2, 5);
        fault("delay 0;", 2, 6);
        fault("delay 51;", 2, 6);
        fault("timeout 0;", 2, 8);
        fault("timeout 201;", 2, 8);
        fault("rule to 0;", 2, 8);
        fault("flow 1 1;rule to 1;flow 1 1;", 2, 17);
        fault("flow 1 1;rule source 256 0 to 0;", 2, 21);
        fault("flow 1 1;rule port 9 8 to 0;", 2, 21);
        fault("flow 1 1;rule target 0 256 to 0;", 2, 23);
        fault("flow 4294967297 1;", 2, 5);
        fault("flow 1 18446744073709551617;", 2, 7);
        fault("flow 99999999999999999999999999999999999999999999999999 1", 2, 5);
    }

    private static void tooMany() {
        String six = Check.times("flow 1 1;", 6);
        Check.due("six flows", Check.load(new PacketScheduler(), six), 6);
        fault(six + "flow 1 1;", 3, 54);
        fault(six + " flow", 3, 55);
        fault(Check.times("flow 1 1;", 5) + "flow 1 1 flow", 1, 54);
        String twelve = "flow 1 1;" + Check.times("rule to 0;", 12);
        PacketScheduler x = Check.loaded(twelve);
        Check.due("twelve rules", x.ruleCount(), 12);
        fault(twelve + "rule to 9;", 3, 129);
        fault(twelve + "link 0; rule", 2, 134);
    }

    private static void errorPosition() {
        PacketScheduler x = new PacketScheduler();
        Check.load(x, "  ?");
        Check.due("of load", x.errorPosition(), 2);
        Check.query(x, "many 1 = 1");
        Check.due("a query without an error", x.errorPosition(), NONE);
        Check.query(x, "many 1 = ");
        Check.due("of query: the length of the text", x.errorPosition(), 9);
        Check.refused("query(201)", () -> x.query(201));
        Check.due("a call that did not read", x.errorPosition(), 9);
        x.run(1);
        x.undo();
        Check.due("undoing leaves it", x.errorPosition(), 9);
        Check.load(x, "flow 1 1;");
        Check.due("a text without an error", x.errorPosition(), NONE);
    }

    private static void classify() {
        PacketScheduler x = new PacketScheduler();
        Check.due("without flows", x.classify(0, 0, 0), NONE);
        Check.refused("out of range without flows", () -> x.classify(256, 0, 0));
        Check.load(x, "flow 1 1; flow 1 1; flow 1 1; rule source 10 20 target 30 40 port 50 60 to 1;"
                + "rule source 5 15 to 2; rule port 255 255 to 1; rule target 0 0 target 7 7 to 2;");
        Check.due("ruleCount", x.ruleCount(), 4);
        Check.due("all three", x.classify(10, 30, 50), 1);
        Check.due("all three, the greatest", x.classify(20, 40, 60), 1);
        Check.due("the second rule", x.classify(10, 30, 49), 2);
        Check.due("source above", x.classify(21, 40, 60), 0);
        Check.due("target above", x.classify(20, 41, 60), 0);
        Check.due("target below", x.classify(20, 29, 60), 0);
        Check.due("port above", x.classify(20, 40, 61), 0);
        Check.due("source below", x.classify(4, 40, 60), 0);
        Check.due("the third rule", x.classify(255, 255, 255), 1);
        Check.due("the repeated condition", x.classify(0, 7, 0), 2);
        Check.due("the first occurrence does not count", x.classify(0, 0, 0), 0);
        int[] wrong = {-1, 256, Integer.MIN_VALUE, Integer.MAX_VALUE};
        for (int value : wrong) {
            Check.refused("source " + value, () -> x.classify(value, 0, 0));
            Check.refused("target " + value, () -> x.classify(0, value, 0));
            Check.refused("port " + value, () -> x.classify(0, 0, value));
        }
    }

    /** Packets 0 to 3: sizes 100, 200, 300 and 400; the first two are sent, and 0 is delivered. */
    private static PacketScheduler four() {
        PacketScheduler x = Check.loaded("flow 1 60000; flow 1 60000; rule port 9 9 to 1; link 100; delay 1;");
        x.arrive(1, 2, 3, 100);
        x.run(1);
        x.arrive(4, 5, 6, 200);
        x.run(2);
        x.arrive(7, 8, 9, 300);
        x.arrive(1, 2, 9, 400);
        return x;
    }

    private static void holds(PacketScheduler x, String test, int many, int first) {
        Check.due("many " + test, Check.query(x, "many " + test), many);
        Check.due("first " + test, Check.query(x, "first " + test), first);
        Check.due("no error", x.errorPosition(), NONE);
    }

    private static void queries() {
        PacketScheduler x = four();
        holds(x, "packet > 1", 2, 2);
        holds(x, "flow = 1", 2, 2);
        holds(x, "size < 300", 2, 0);
        holds(x, "state = 0", 2, 2);
        holds(x, "state = 1", 1, 1);
        holds(x, "state = 2", 1, 0);
        holds(x, "tries = 1", 2, 0);
        holds(x, "arrival > 0", 3, 1);
        holds(x, "arrival = 3", 2, 2);
        holds(x, "source = 4", 1, 1);
        holds(x, "target = 8", 1, 2);
        holds(x, "port=9", 2, 2);
        holds(x, "1 < 2", 4, 0);
        holds(x, "999999 > 999999", 0, NONE);
        holds(x, "0 = 000000000000", 4, 0);
        holds(x, "size > source", 4, 0);
        holds(x, "packet = flow", 1, 0);
        holds(x, "not size = 100 and size < 300", 1, 1);
        holds(x, "not (size = 100 and size < 300)", 3, 1);
        holds(x, "size = 100 or size = 200 and size = 300", 1, 0);
        holds(x, "(size = 100 or size = 200) and size = 300", 0, NONE);
        holds(x, "size = 300 and size = 300 or size = 100", 2, 0);
        holds(x, "size = 100 or size = 200 or size = 400", 3, 0);
        holds(x, "not not size = 100", 1, 0);
        holds(x, "not not not not not not size = 100", 1, 0);
        holds(x, "((((((size=400))))))", 1, 3);
        holds(x, "not(not(not(size=400)))", 3, 0);
        holds(x, "not(not(not(size=400))) and not not not not not not 1=1", 3, 0);
        PacketScheduler empty = new PacketScheduler();
        holds(empty, "1 = 1", 0, NONE);

        PacketScheduler full = Check.loaded("flow 1 60000;");
        for (int i = 0; i < 100; i++) {
            full.arrive(i, 255 - i, 7, 1 + i);
        }
        holds(full, "packet > 62", 37, 63);
        holds(full, "packet > 63", 36, 64);
        holds(full, "not packet < 99", 1, 99);
        holds(full, "size = 65 or size = 64", 2, 63);
        holds(full, "not 1 = 2", 100, 0);
        holds(full, "not packet < 65 and packet < 67", 2, 65);
    }

    private static void queryFault(String text, int code, int position) {
        PacketScheduler x = four();
        Check.due("query " + text, Check.query(x, text), HIDDEN - code);
        Check.due("the position in " + text, x.errorPosition(), position);
        Check.refused("the buffer is empty after an error", () -> x.query(1));
    }

    private static void queryErrors() {
        queryFault("", 1, 0);
        queryFault("    ", 1, 4);
        queryFault("all 1=1", 1, 0);
        queryFault("1=1", 1, 0);
        queryFault("many", 1, 4);
        queryFault("many first 1=1", 1, 5);
        queryFault("many size", 1, 9);
        queryFault("many size =  ", 1, 13);
        queryFault("many size ! 1", 1, 10);
        queryFault("many size <= 1", 1, 11);
        queryFault("many sizes = 1", 1, 5);
        queryFault("many size = 1 2", 1, 14);
        queryFault("many size = 1)", 1, 13);
        queryFault("many (size = 1", 1, 14);
        queryFault("many () = 1", 1, 6);
        queryFault("many (size) = 1", 1, 10);
        queryFault("many size = 1 and", 1, 17);
        queryFault("many size = 1 or or", 1, 17);
        queryFault("many size = not 1", 1, 12);
        queryFault("many size = -1", 1, 12);
        queryFault("many size = 1 not", 1, 14);
        queryFault("many ;", 1, 5);
        queryFault("many 1000000 = 1", 2, 5);
        queryFault("many size = 1000000", 2, 12);
        queryFault("many size = 99999999999999999999", 2, 12);
        queryFault("many size = 4294967296", 2, 12);
        queryFault("many not not not not not not not 1 = 1", 3, 29);
        queryFault("many ((((((( 1 = 1", 3, 11);
        queryFault("many not ( not ( not ( ( 1 = 1", 3, 23);
        queryFault("many ((((((1=1 and (", 3, 19);
        queryFault("many ((((((1=1 (", 1, 15);
        queryFault("many ((((((1=1)))))) and (not(not(not(", 3, 37);
        queryFault("many not 1=1 and ((((((1=1)))))) and not ((((((", 3, 46);
    }

    private static void queryRefuses() {
        PacketScheduler x = four();
        for (int i = 0; i < 11; i++) {
            x.feed(0x20202020, 0x20202020, 0x20202020, 0x20202020, 0x20202020);
        }
        Check.refused("query(-1)", () -> x.query(-1));
        Check.refused("query(201)", () -> x.query(201));
        Check.refused("query(220)", () -> x.query(220));
        Check.refused("query of the least number", () -> x.query(Integer.MIN_VALUE));
        Check.refused("query of the greatest number", () -> x.query(Integer.MAX_VALUE));
        Check.due("nothing changed", x.feed(0, 0, 0, 0, 0), 240);
        Check.due("query(200)", x.query(200), HIDDEN - 1);
        Check.due("its position", x.errorPosition(), 200);
        x.feed(0, 0, 0, 0, 0);
        Check.refused("query(21) of 20 bytes", () -> x.query(21));
        Check.due("a query is no operation", x.undoCount(), 6);
        x.load(0);
        Check.feed(x, "many 1=1 and?       ");
        Check.due("only the first bytes are read", x.query(8), 0);
        Check.due("the buffer is empty", x.feed(0, 0, 0, 0, 0), 20);
    }
}

/** Promise 37 at its boundaries: the grammar of queries, open parts, errors and what is refused. */
final class QueryEdges {
    private static final int NONE = PacketScheduler.NONE;
    private static final int HIDDEN = PacketScheduler.HIDDEN;
    private static final int BLANKS = 0x20202020;

    private QueryEdges() {
    }

    static void all() {
        reads();
        answers();
        grammar();
        codes();
    }

    /** Packet 0 of flow 1 is dropped; 1 and 2, of the flows 2 and 0, have just arrived. */
    private static PacketScheduler three() {
        PacketScheduler x = Check.loaded("flow 1 60000; flow 1 60000 retries 0; flow 1 60000; rule port 9 9 to 1;"
                + "rule port 8 8 to 2; delay 4; timeout 3;");
        x.arrive(255, 0, 9, 300);
        x.run(4);
        x.arrive(4, 5, 8, 200);
        x.arrive(6, 7, 3, 400);
        return x;
    }

    private static void holds(PacketScheduler x, String test, int many, int first) {
        Check.due("many " + test, Check.query(x, "many " + test), many);
        Check.due("first " + test, Check.query(x, "first " + test), first);
        Check.due("the error position of " + test, x.errorPosition(), NONE);
    }

    private static void fault(String text, int code, int position) {
        PacketScheduler x = hundred(2);
        Check.due("query '" + text + "'", Check.query(x, text), HIDDEN - code);
        Check.due("the error position of '" + text + "'", x.errorPosition(), position);
    }

    private static PacketScheduler hundred(int packets) {
        PacketScheduler x = Check.loaded("flow 1 60000;");
        for (int i = 0; i < packets; i++) {
            x.arrive(i, 255 - i, i % 7, 1 + i);
        }
        return x;
    }

    private static void reads() {
        Edge.of(37, "Reads the first bytes of the buffer as a query and evaluates it for every packet in ascending"
                + " order.", () -> {
            holds(hundred(0), "1 = 1", 0, NONE);
            holds(hundred(0), "not 1 = 1", 0, NONE);
            holds(hundred(1), "not 1 = 2", 1, 0);
            for (int packets : new int[] {63, 64, 65, 99, 100}) {
                PacketScheduler x = hundred(packets);
                holds(x, "1 = 1", packets, 0);
                holds(x, "not 1 = 2", packets, 0);
                holds(x, "packet = " + (packets - 1), 1, packets - 1);
                holds(x, "packet = " + packets, 0, NONE);
                holds(x, "not packet < " + (packets - 1), 1, packets - 1);
                holds(x, "packet = 62 or packet = 0", 2, 0);
            }
            PacketScheduler x = hundred(3);
            Check.unchanged("query", x, () -> Check.query(x, "many 1 = 1"));
        });
        Edge.of(37, "The buffer is empty afterwards, also after an error.", () -> {
            String[] texts = {"many 1=1 ?", "?         ", "many 1=1000000", "many((((((("};
            int[] lengths = {8, 1, 14, 11};
            for (int i = 0; i < texts.length; i++) {
                PacketScheduler x = hundred(1);
                Check.feed(x, texts[i]);
                x.query(lengths[i]);
                Check.refused("one byte more after " + texts[i], () -> x.query(1));
                Check.due("feed after " + texts[i], x.feed(BLANKS, BLANKS, BLANKS, BLANKS, BLANKS), 20);
            }
        });
        Edge.of(37, "`length`: number of bytes to read, at most 200", () -> {
            PacketScheduler x = hundred(5);
            String most = "many " + Check.times(" ", 189) + "size=1";
            Check.due("a query of 200 bytes", most.length(), 200);
            Check.due("a query of 200 bytes", Check.query(x, most), 1);
            Check.feed(x, most.replace("size=1", "size=12"));
            Check.due("the first 200 of 201 bytes", x.query(200), 1);
            Check.feed(x, most + "?");
            Check.refused("query(201)", () -> x.query(201));
            Check.due("query(199): the end is cut off", x.query(199), HIDDEN - 1);
            Check.due("its error position", x.errorPosition(), 199);
            Check.due("query(0)", x.query(0), HIDDEN - 1);
            Check.due("its error position", x.errorPosition(), 0);
            String parts = "many 1=1" + Check.times("or 1=2", 32);
            Check.due("as many parts as 200 bytes hold", Check.query(x, parts), 5);
        });
        Edge.of(37, "Throws `IllegalArgumentException` if length is negative, greater than 200, or greater than the"
                + " number"
                + " of bytes in the buffer (nothing changes)", QueryEdges::refuses);
    }

    private static void refuses() {
        PacketScheduler x = hundred(4);
        x.run(1);
        Check.load(x, "  ?");
        Check.refused("query(1) of an empty buffer", () -> x.query(1));
        Check.feed(x, "many 1=1            ");
        for (int length : new int[] {-1, 21, 200, 201, Integer.MIN_VALUE, Integer.MAX_VALUE}) {
            Check.refused("query(" + length + ") of 20 bytes", () -> x.query(length));
            Check.unchanged("query(" + length + ")", x, () -> x.query(length));
        }
        for (int i = 2; i <= 10; i++) {
            Check.due("the buffer is what it was", x.feed(BLANKS, BLANKS, BLANKS, BLANKS, BLANKS), 20 * i);
        }
        x.feed(BLANKS, BLANKS, BLANKS, BLANKS, BLANKS);
        Check.refused("query(201) of 220 bytes", () -> x.query(201));
        Check.refused("query(220) of 220 bytes", () -> x.query(220));
        Check.refused("query(-1) of 220 bytes", () -> x.query(-1));
        Check.due("query(200) of 220 bytes", x.query(200), 4);
        Check.feed(x, "many 1=1            ");
        Check.due("query(20) of 20 bytes", x.query(20), 4);
    }

    private static void answers() {
        Edge.of(37, "Returns for 'many' the number of packets for which the test holds;", () -> {
            PacketScheduler x = hundred(100);
            Check.due("none", Check.query(x, "many size > 100"), 0);
            Check.due("one", Check.query(x, "many size > 99"), 1);
            Check.due("all", Check.query(x, "many size > 0"), 100);
            Check.due("all but one", Check.query(x, "many size > 1"), 99);
            Check.due("across 64", Check.query(x, "many packet > 61 and packet < 67"), 5);
            Check.due("on both sides of 64", Check.query(x, "many packet = 1 or packet = 99"), 2);
            Check.due("beyond 64", Check.query(x, "many packet = 70 or packet = 80 or packet = 90"), 3);
        });
        Edge.of(37, "for 'first' the smallest such packet, or NONE;", () -> {
            PacketScheduler x = hundred(100);
            Check.due("none", Check.query(x, "first size > 100"), NONE);
            Check.due("the last", Check.query(x, "first size > 99"), 99);
            Check.due("the first", Check.query(x, "first size > 0"), 0);
            Check.due("63", Check.query(x, "first packet > 62"), 63);
            Check.due("64", Check.query(x, "first packet > 63"), 64);
            Check.due("none without packets", Check.query(hundred(0), "first 1=1"), NONE);
        });
        Edge.of(37, "HIDDEN minus the error code if the text has an error.", () -> {
            PacketScheduler x = hundred(1);
            Check.due("code 1", Check.query(x, "many"), HIDDEN - 1);
            Check.due("code 2", Check.query(x, "many 1000000=1"), HIDDEN - 2);
            Check.due("code 3", Check.query(x, "many(((((((1=1"), HIDDEN - 3);
            Check.due("an error without packets", Check.query(hundred(0), "many 1=1000000"), HIDDEN - 2);
            Check.due("an error behind a part that holds", Check.query(x, "many 1=1 or 1="), HIDDEN - 1);
        });
        Edge.of(37, "`HIDDEN = -1000000000`", () -> {
            Check.due("HIDDEN", PacketScheduler.HIDDEN, -1000000000);
            Check.due("code 1", Check.query(hundred(1), "many"), -1000000001);
        });
    }

    private static void grammar() {
        Edge.of(37, "query: ('many' | 'first') test", () -> {
            fault("1=1", 1, 0);
            fault("all 1=1", 1, 0);
            fault("many first 1=1", 1, 5);
            fault("manyfirst 1=1", 1, 0);
            fault("many", 1, 4);
            fault("first  ", 1, 7);
            fault("", 1, 0);
            fault("many 1=1 many", 1, 9);
            fault("many 1=1;", 1, 8);
        });
        Edge.of(37, "factor: 'not' factor | '(' test ')' | value ('<' | '=' | '>') value.", () -> {
            PacketScheduler x = hundred(4);
            holds(x, "size < 2", 1, 0);
            holds(x, "size < 1", 0, NONE);
            holds(x, "size = 4", 1, 3);
            holds(x, "size > 3", 1, 3);
            holds(x, "size > 4", 0, NONE);
            holds(x, "not size = 1 and size < 3", 1, 1);
            holds(x, "not(size = 1 and size < 3)", 3, 1);
            holds(x, "size = 1 or size = 2 and size = 3", 1, 0);
            holds(x, "(size = 1 or size = 2)and size = 3", 0, NONE);
            holds(x, "size = 1 and size = 2 or size = 3", 1, 2);
            holds(x, "not size = 1 or size = 1", 4, 0);
            fault("many ()", 1, 6);
            fault("many (1=1", 1, 9);
            fault("many 1=1)", 1, 8);
            fault("many not", 1, 8);
            fault("many 1 1", 1, 7);
            fault("many 1==1", 1, 7);
            fault("many 1<>1", 1, 7);
            fault("many (1)=1", 1, 7);
            fault("many 1=(1)", 1, 7);
            fault("many 1=not 1", 1, 7);
            fault("many 1=1 and", 1, 12);
            fault("many 1=1 or and 1=1", 1, 12);
            fault("many and 1=1", 1, 5);
        });
        Edge.of(37, "value: a number from 0 to 999999, or one of these properties of a packet", () -> {
            PacketScheduler x = hundred(3);
            holds(x, "0 = 0000000000000000000000000000", 3, 0);
            holds(x, "999999 = 999999", 3, 0);
            holds(x, "999999 > 999998", 3, 0);
            holds(x, "size < 0000999999", 3, 0);
            for (String huge : new String[] {"1000000", "1000001", "9999990", "2147483648", "4294967296", "4294967297",
                "18446744073709551616", "18446744073709551617"}) {
                fault("many " + huge + " = 1", 2, 5);
                fault("many size < " + huge, 2, 12);
            }
            fault("many -1 < 1", 1, 5);
            fault("many 1 > -1", 1, 9);
            fault("many sizes = 1", 1, 5);
            fault("many siz = 1", 1, 5);
            fault("many sort = 1", 1, 5);
            fault("many porz = 1", 1, 5);
            fault("many weight = 1", 1, 5);
            fault("many 1 = many", 1, 9);
            properties();
        });
    }

    private static void properties() {
        PacketScheduler x = three();
        holds(x, "packet = 0", 1, 0);
        holds(x, "packet = 2", 1, 2);
        holds(x, "packet > 2", 0, NONE);
        holds(x, "flow = 1", 1, 0);
        holds(x, "flow = 2", 1, 1);
        holds(x, "flow = 0", 1, 2);
        holds(x, "source = 255", 1, 0);
        holds(x, "target = 0", 1, 0);
        holds(x, "port = 8", 1, 1);
        holds(x, "arrival = 0", 1, 0);
        holds(x, "arrival = 4", 2, 1);
        holds(x, "tries = 1", 1, 0);
        holds(x, "tries = 0", 2, 1);
        holds(x, "state = 3", 1, 0);
        holds(x, "state = 0", 2, 1);
        holds(x, "size = 300", 1, 0);
        x.run(1);
        holds(x, "state = 1", 2, 1);
        x.run(4);
        holds(x, "state = 2", 3, 0);
        holds(x, "state > 2", 0, NONE);
    }

    private static void codes() {
        Edge.of(37, "If several codes apply to one token, the smallest one counts.", () -> {
            fault("many ((((((1=1 (", 1, 15);
            fault("many ((((((1=(", 1, 13);
            fault("many ((((((1 not", 1, 13);
            fault("many 1=1 1000000", 1, 9);
            fault("many 1 1000000", 1, 7);
        });
        Edge.of(37, "the text ends too early (the position is then the length of the text).", () -> {
            String text = "first not ( size < 1 and 2 > packet ) or state = 3 ";
            for (int length = 0; length < text.length(); length++) {
                if (text.charAt(length) == ' ') {
                    String part = text.substring(0, length);
                    boolean whole = part.endsWith(")") || part.endsWith("3");
                    PacketScheduler x = hundred(2);
                    Check.due("query '" + part + "'", Check.query(x, part) >= NONE, whole);
                    Check.due("its error position", x.errorPosition(), whole ? NONE : length);
                    Check.query(x, part + " \n");
                    Check.due("with blanks behind it", x.errorPosition(), whole ? NONE : length + 2);
                }
            }
        });
        Edge.of(37, "in a query a 'not' or '(' that would be the seventh one open at the same time.", () -> {
            PacketScheduler x = hundred(2);
            holds(x, "((((((size=1))))))", 1, 0);
            holds(x, "not not not not not not size=1", 1, 0);
            holds(x, "not(not(not(size=1)))", 1, 1);
            holds(x, "((((((size=1)))))) or ((((((size=2))))))", 2, 0);
            fault("many (((((((size=1", 3, 11);
            fault("many ((((((( ", 3, 11);
            fault("many not not not not not not not 1=1", 3, 29);
            fault("many ((((((not", 3, 11);
            fault("many not not not not not not(", 3, 28);
            fault("many not(not(not((1=1))))", 3, 17);
            fault("many ((((((1=1) or ((1=1", 3, 20);
            fault("many ((((((1=1)))))) or (((((((", 3, 30);
        });
        Edge.of(37, "A 'not' is open until the end of its factor.", () -> {
            PacketScheduler x = hundred(2);
            holds(x, "not not not not not not 1=1 and not not not not not not size=1", 1, 0);
            holds(x, "not 1=2 and ((((((size=1))))))", 1, 0);
            holds(x, "not(1=2) or ((((((size=1))))))", 2, 0);
            holds(x, "(((((not 1=2 and (size=1))))))", 1, 0);
            fault("many not((((((1=1))))))", 3, 13);
            fault("many not(((((1=1 and (", 3, 21);
            fault("many (((((not(", 3, 13);
            fault("many ((((( not 1=1 and not (", 3, 27);
        });
    }
}

import java.util.NoSuchElementException;

/** What the tests share: answers that are due, exceptions that are due, and texts for the buffer. */
final class Check {
    interface Call {
        Object answer();
    }

    private static int checks = 0;
    private static int wrong = 0;
    private static String about = "";

    private Check() {
    }

    static void due(String call, Object got, Object want) {
        checks++;
        boolean same = got instanceof Number && want instanceof Number && !(want instanceof Double)
                && !(want instanceof Float) ? ((Number) got).longValue() == ((Number) want).longValue()
                : got == null ? want == null : got.equals(want);
        if (!same) {
            wrong++;
            System.out.println(about + call + " answered " + got + ", due is " + want);
        }
    }

    /** What every failure from here on is said to be about. */
    static void about(String subject) {
        about = subject;
    }

    static int checks() {
        return checks;
    }

    static Object answer(Call call) {
        try {
            return call.answer();
        } catch (RuntimeException e) {
            return "throws." + e.getClass().getSimpleName();
        }
    }

    static void refused(String what, Call call) {
        due(what, answer(call), "throws." + IllegalArgumentException.class.getSimpleName());
    }

    static void missing(String what, Call call) {
        due(what, answer(call), "throws." + NoSuchElementException.class.getSimpleName());
    }

    static void end(String test) {
        System.out.println(test + ": " + checks + " checks, " + wrong + " wrong");
        if (wrong != 0) {
            System.exit(1);
        }
    }

    /** Feeds a text, filled up with spaces to whole calls; the characters are bytes. */
    static int feed(PacketScheduler x, String text) {
        int answer = PacketScheduler.NONE;
        for (int at = 0; at < text.length(); at += 20) {
            answer = x.feed(word(text, at), word(text, at + 4), word(text, at + 8), word(text, at + 12),
                    word(text, at + 16));
        }
        return answer;
    }

    static int word(String text, int at) {
        int word = 0;
        for (int i = at; i < at + 4; i++) {
            word = word << 8 | (i < text.length() ? text.charAt(i) & 255 : ' ');
        }
        return word;
    }

    static int load(PacketScheduler x, String text) {
        feed(x, text);
        return x.load(text.length());
    }

    static int query(PacketScheduler x, String text) {
        feed(x, text);
        return x.query(text.length());
    }

    static PacketScheduler loaded(String text) {
        PacketScheduler x = new PacketScheduler();
        int flows = load(x, text);
        if (flows < 0) {
            due("load " + text, flows, "a number of flows");
        }
        return x;
    }

    static String formatted(PacketScheduler x, int packet) {
        StringBuilder text = new StringBuilder();
        int length = x.format(packet);
        for (int i = 0; i < length; i++) {
            text.append((char) x.formattedByte(i));
        }
        due("the byte behind the text", x.formattedByte(length), PacketScheduler.NONE);
        return text.toString();
    }

    /** Every answer that tells of the object's state, got by calls that change nothing. */
    static String state(PacketScheduler x) {
        StringBuilder text = new StringBuilder();
        int[] counts = {x.flowCount(), x.ruleCount(), x.packetCount(), x.transmissionCount(), x.clock(), x.credit(),
            x.nextFlow(), x.undoCount(), x.errorPosition()};
        for (int count : counts) {
            text.append(count).append(' ');
        }
        text.append(x.worst()).append(' ').append(x.spread()).append(" text ");
        for (int i = 0; x.formattedByte(i) >= 0; i++) {
            text.append((char) x.formattedByte(i));
        }
        flowStates(x, text);
        for (int packet = 0; packet < x.packetCount(); packet++) {
            text.append("; p");
            for (int what = 0; what < 9; what++) {
                text.append(' ').append(x.packet(packet, what));
            }
        }
        for (int number = 0; number < x.transmissionCount(); number++) {
            text.append("; t ").append(x.charge(number));
            for (int what = 0; what < 5; what++) {
                text.append(' ').append(x.transmission(number, what));
            }
        }
        return text.toString();
    }

    private static void flowStates(PacketScheduler x, StringBuilder text) {
        for (int flow = 0; flow < x.flowCount(); flow++) {
            text.append("; f ").append(x.virtualTime(flow)).append(' ').append(x.isIdle(flow)).append(' ')
                    .append(x.outstanding(flow)).append(' ').append(x.share(flow)).append(' ')
                    .append(x.meanDelay(flow));
            for (int what = 0; what < 16; what++) {
                text.append(' ').append(x.flow(flow, what));
            }
            text.append(" queue");
            for (int index = 0; x.queued(flow, index) >= 0; index++) {
                text.append(' ').append(x.queued(flow, index));
            }
            text.append(" audits");
            for (int age = 0; flow > 0 && age < 130; age++) {
                text.append(' ').append(x.audit(0, flow, age));
            }
        }
    }

    /** A call that is refused, or that only looks, leaves everything as it is. */
    static void unchanged(String what, PacketScheduler x, Call call) {
        String before = state(x);
        answer(call);
        due("what " + what + " leaves", state(x), before);
    }

    static String times(String part, int number) {
        return part.repeat(number);
    }
}

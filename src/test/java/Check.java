import java.util.NoSuchElementException;

/** What the tests share: answers that are due, exceptions that are due, and texts for the buffer. */
final class Check {
    interface Call {
        Object answer();
    }

    private static int checks = 0;
    private static int wrong = 0;

    private Check() {
    }

    static void due(String call, Object got, Object want) {
        checks++;
        boolean same = got instanceof Number && want instanceof Number && !(want instanceof Double)
                && !(want instanceof Float) ? ((Number) got).longValue() == ((Number) want).longValue()
                : got == null ? want == null : got.equals(want);
        if (!same) {
            wrong++;
            System.out.println(call + " answered " + got + ", due is " + want);
        }
    }

    static Object answer(Call call) {
        try {
            return call.answer();
        } catch (RuntimeException e) {
            return "throws." + e.getClass().getSimpleName();
        }
    }

    static void refused(String what, Call call) {
        due(what, answer(call), "throws." + IllegalArgumentException.class.getSimpleName());
    }

    static void missing(String what, Call call) {
        due(what, answer(call), "throws." + NoSuchElementException.class.getSimpleName());
    }

    static void end(String test) {
        System.out.println(test + ": " + checks + " checks, " + wrong + " wrong");
        if (wrong != 0) {
            System.exit(1);
        }
    }

    /** Feeds a text, filled up with spaces to whole calls; the characters are bytes. */
    static int feed(PacketScheduler x, String text) {
        int answer = PacketScheduler.NONE;
        for (int at = 0; at < text.length(); at += 20) {
            answer = x.feed(word(text, at), word(text, at + 4), word(text, at + 8), word(text, at + 12),
                    word(text, at + 16));
        }
        return answer;
    }

    static int word(String text, int at) {
        int word = 0;
        for (int i = at; i < at + 4; i++) {
            word = word << 8 | (i < text.length() ? text.charAt(i) & 255 : ' ');
        }
        return word;
    }

    static int load(PacketScheduler x, String text) {
        feed(x, text);
        return x.load(text.length());
    }

    static int query(PacketScheduler x, String text) {
        feed(x, text);
        return x.query(text.length());
    }

    static PacketScheduler loaded(String text) {
        PacketScheduler x = new PacketScheduler();
        int flows = load(x, text);
        if (flows < 0) {
            due("load " + text, flows, "a number of flows");
        }
        return x;
    }

    static String formatted(PacketScheduler x, int packet) {
        StringBuilder text = new StringBuilder();
        int length = x.format(packet);
        for (int i = 0; i < length; i++) {
            text.append((char) x.formattedByte(i));
        }
        due("the byte behind the text", x.formattedByte(length), PacketScheduler.NONE);
        return text.toString();
    }

    static String times(String part, int number) {
        return part.repeat(number);
    }
}

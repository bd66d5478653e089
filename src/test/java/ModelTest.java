import java.util.Random;

/** Runs of calls that are drawn from fixed seeds, with the answers of the program and of the model side by side. */
public final class ModelTest {
    private static final int RUNS = 400;
    private static final int CALLS = 512;

    private final Random random;
    private final StringBuilder calls = new StringBuilder();
    private PacketScheduler x = new PacketScheduler();
    private Model y = new Model();
    /** 0 addresses that rules often name, 1 small packets, 2 many flows, 3 many transmissions of each packet. */
    private final int plan;

    private ModelTest(long seed) {
        random = new Random(seed);
        plan = random.nextInt(4);
    }

    public static void main(String[] args) {
        int runs = args.length > 0 ? Integer.parseInt(args[0]) : RUNS;
        long base = args.length > 1 ? Long.parseLong(args[1]) : 0;
        for (int run = 0; run < runs; run++) {
            new ModelTest(base + run).play(base + run);
        }
        Check.end("ModelTest");
    }

    private void play(long seed) {
        // A run without flows shows little, so it is the rare case.
        for (int tries = 0; tries < 5 && y.counts()[0] == 0; tries++) {
            loadText(text());
        }
        for (int call = 0; call < CALLS; call++) {
            if (!step()) {
                System.out.println("seed " + seed + ", the calls:" + calls);
                Check.end("ModelTest");
                System.exit(1);
            }
        }
    }

    private boolean same(String call, Check.Call ofX, Check.Call ofY) {
        calls.append(' ').append(call);
        Object got = Check.answer(ofX);
        Object want = Check.answer(ofY);
        Check.due(call, got, want);
        return got instanceof Number && want instanceof Number ? got.toString().equals(want.toString())
                : got == null ? want == null : got.equals(want);
    }

    private int upTo(int most) {
        return random.nextInt(most + 1);
    }

    /** Mostly in range, at times a little or far out of it. */
    private int near(int least, int most) {
        int kind = random.nextInt(40);
        if (kind == 0) {
            return least - 1;
        }
        if (kind == 1) {
            return most + 1;
        }
        if (kind == 2) {
            int[] far = {Integer.MIN_VALUE, Integer.MAX_VALUE, -1, 1 << 30, random.nextInt()};
            return far[random.nextInt(far.length)];
        }
        return most < least ? least : kind < 5 ? most : kind < 8 ? least : least + random.nextInt(most - least + 1);
    }

    private boolean step() {
        int kind = random.nextInt(100);
        if (kind < 34) {
            boolean fine = true;
            for (int packets = random.nextInt(8) == 0 ? 12 : 1; packets > 0 && fine; packets--) {
                fine = arrive();
            }
            return fine;
        }
        if (kind < 50) {
            int ticks = random.nextInt(12) == 0 ? near(0, 500) : random.nextInt(5);
            return same("run(" + ticks + ")", () -> x.run(ticks), () -> y.run(ticks)) && everything();
        }
        if (kind < 56) {
            int flow = near(0, y.counts()[0] - 1);
            int weight = near(1, 16);
            return same("setWeight(" + flow + ", " + weight + ")", () -> x.setWeight(flow, weight),
                    () -> y.setWeight(flow, weight));
        }
        if (kind < 62) {
            return audits();
        }
        if (kind < 66) {
            int packet = near(0, y.counts()[2] - 1);
            int limit = random.nextInt(3) == 0 ? near(0, 1000) : upTo(30);
            return same("forecast(" + packet + ", " + limit + ")", () -> x.forecast(packet, limit),
                    () -> y.forecast(packet, limit));
        }
        if (kind < 69) {
            int packet = near(0, y.counts()[2] - 1);
            int limit = random.nextInt(20) == 0 ? near(0, 300) : upTo(20);
            return same("weightFor(" + packet + ", " + limit + ")", () -> x.weightFor(packet, limit),
                    () -> y.weightFor(packet, limit));
        }
        if (kind < 75) {
            return same("undo()", () -> x.undo(), () -> y.undo()) && everything();
        }
        return kind < 85 ? query() : rare(random.nextInt(60));
    }

    private boolean rare(int kind) {
        if (kind == 0) {
            return loadText(text());
        }
        if (kind == 1) {
            return loadText(spoiled(text()));
        }
        if (kind < 8) {
            x.saveSnapshot();
            y.saveSnapshot();
            calls.append(" saveSnapshot()");
            return everything();
        }
        if (kind < 12) {
            return same("restoreSnapshot()", () -> x.restoreSnapshot(), () -> y.restoreSnapshot()) && everything();
        }
        if (kind == 12) {
            return feedBoth(" ".repeat(820)) && same("query(0)", () -> x.query(0), () -> y.query(0));
        }
        if (kind < 16) {
            int length = random.nextInt(20) == 0 ? 0 : 1 + near(0, 800);
            return same("load(" + length + ")", () -> x.load(length), () -> y.load(length));
        }
        if (kind < 20) {
            int length = near(0, 200);
            return same("query(" + length + ")", () -> x.query(length), () -> y.query(length));
        }
        if (kind < 30) {
            int s = near(0, 255);
            int t = near(0, 255);
            int p = near(0, 255);
            return same("classify(" + s + ", " + t + ", " + p + ")", () -> x.classify(s, t, p),
                    () -> y.classify(s, t, p));
        }
        return properties();
    }

    private boolean arrive() {
        int range = plan == 0 ? 3 : 255;
        int s = near(0, 40) == -1 ? -1 : upTo(range);
        int t = upTo(range);
        int p = near(0, 255) == 256 ? 256 : upTo(range);
        int size = random.nextInt(3) == 0 ? near(1, 1500) : 1 + random.nextInt(plan == 1 ? 60 : 400);
        return same("arrive(" + s + ", " + t + ", " + p + ", " + size + ")", () -> x.arrive(s, t, p, size),
                () -> y.arrive(s, t, p, size)) && (random.nextInt(4) != 0 || everything());
    }

    private boolean audits() {
        int flow = near(0, y.counts()[0] - 1);
        int other = random.nextInt(3) == 0 ? near(0, y.counts()[0] - 1) : flow == 0 ? 1 : 0;
        int age = random.nextInt(3) == 0 ? near(0, 128) : upTo(5);
        return same("audit(" + flow + ", " + other + ", " + age + ")", () -> x.audit(flow, other, age),
                () -> y.audit(flow, other, age))
                && (random.nextInt(3) != 0 || same("worst()", () -> x.worst(), () -> y.worst()))
                && same("spread()", () -> x.spread(), () -> y.spread());
    }

    private boolean properties() {
        int flow = near(0, y.counts()[0] - 1);
        int packet = near(0, y.counts()[2] - 1);
        int sending = near(0, y.counts()[3] - 1);
        int what = near(0, 15);
        int index = near(0, 20);
        return same("flow(" + flow + ", " + what + ")", () -> x.flow(flow, what), () -> y.flow(flow, what))
                && same("packet(" + packet + ", " + what + ")", () -> x.packet(packet, what),
                        () -> y.packet(packet, what))
                && same("transmission(" + sending + ", " + what + ")", () -> x.transmission(sending, what),
                        () -> y.transmission(sending, what))
                && same("charge(" + sending + ")", () -> x.charge(sending), () -> y.charge(sending))
                && same("virtualTime(" + flow + ")", () -> x.virtualTime(flow), () -> y.virtualTime(flow))
                && same("isIdle(" + flow + ")", () -> x.isIdle(flow), () -> y.isIdle(flow))
                && same("outstanding(" + flow + ")", () -> x.outstanding(flow), () -> y.outstanding(flow))
                && same("share(" + flow + ")", () -> x.share(flow), () -> y.share(flow))
                && same("meanDelay(" + flow + ")", () -> x.meanDelay(flow), () -> y.meanDelay(flow))
                && same("queued(" + flow + ", " + index + ")", () -> x.queued(flow, index),
                        () -> y.queued(flow, index))
                && same("format(" + packet + ")", () -> x.format(packet), () -> y.format(packet))
                && same("formattedByte(" + index + ")", () -> x.formattedByte(index), () -> y.formattedByte(index));
    }

    /** Every answer that tells of the state, put into one text each. */
    private boolean everything() {
        StringBuilder got = new StringBuilder();
        StringBuilder want = new StringBuilder();
        int[] counts = y.counts();
        int[] own = {x.flowCount(), x.ruleCount(), x.packetCount(), x.transmissionCount(), x.clock(), x.credit(),
            x.nextFlow(), x.undoCount(), x.errorPosition()};
        for (int i = 0; i < own.length; i++) {
            got.append(own[i]).append(' ');
            want.append(counts[i]).append(' ');
        }
        for (int f = 0; f < counts[0] && f < own[0]; f++) {
            for (int what = 0; what < 16; what++) {
                got.append(x.flow(f, what)).append(' ');
                want.append(y.flow(f, what)).append(' ');
            }
            for (int i = 0; i <= y.flow(f, 7); i++) {
                got.append(x.queued(f, i)).append(' ');
                want.append(y.queued(f, i)).append(' ');
            }
            got.append(x.virtualTime(f)).append(' ').append(x.outstanding(f)).append(x.isIdle(f)).append("; ");
            want.append(y.virtualTime(f)).append(' ').append(y.outstanding(f)).append(y.isIdle(f)).append("; ");
        }
        for (int p = 0; p < counts[2] && p < own[2]; p++) {
            for (int what = 0; what < 9; what++) {
                got.append(x.packet(p, what)).append(' ');
                want.append(y.packet(p, what)).append(' ');
            }
        }
        for (int s = 0; s < counts[3] && s < own[3]; s++) {
            for (int what = 0; what < 5; what++) {
                got.append(x.transmission(s, what)).append(' ');
                want.append(y.transmission(s, what)).append(' ');
            }
            got.append(x.charge(s)).append("; ");
            want.append(y.charge(s)).append("; ");
        }
        return same("everything", () -> got.toString(), () -> want.toString());
    }

    private boolean feedBoth(String text) {
        boolean fine = true;
        for (int at = 0; at < text.length(); at += 20) {
            int[] w = new int[5];
            for (int i = 0; i < 5; i++) {
                w[i] = Check.word(text, at + 4 * i);
            }
            fine = fine && same("feed(" + w[0] + ", " + w[1] + ", " + w[2] + ", " + w[3] + ", " + w[4] + ")",
                    () -> x.feed(w[0], w[1], w[2], w[3], w[4]), () -> y.feed(w));
        }
        return fine;
    }

    private boolean loadText(String text) {
        return feedBoth(text) && same("load " + text, () -> x.load(text.length()), () -> y.load(text.length()))
                && same("errorPosition()", () -> x.errorPosition(), () -> y.errorPosition()) && everything();
    }

    private boolean query() {
        String fresh = (random.nextBoolean() ? "many " : "first") + " " + test(random.nextInt(4));
        String text = random.nextInt(3) == 0 ? spoiled(fresh) : fresh;
        return feedBoth(text) && same("query " + text, () -> x.query(text.length()), () -> y.query(text.length()))
                && same("errorPosition()", () -> x.errorPosition(), () -> y.errorPosition());
    }

    private String text() {
        StringBuilder text = new StringBuilder();
        int flows = 1 + upTo(plan >= 2 ? 5 : 2) + (random.nextInt(30) == 0 ? 2 : 0);
        for (int f = 0; f < flows; f++) {
            text.append("flow ").append(near(1, 16)).append(' ').append(random.nextInt(3) == 0 ? 2000 : 60000);
            if (random.nextBoolean()) {
                text.append(" burst ").append(random.nextBoolean() ? near(0, 20000) : upTo(500));
            }
            if (random.nextBoolean()) {
                text.append(" loss ").append(2 + upTo(4));
            }
            if (random.nextBoolean()) {
                text.append(" late ").append(2 + upTo(3)).append(' ').append(1 + upTo(20));
            }
            if (plan == 3 || random.nextBoolean()) {
                text.append("\nretries ").append(plan == 3 ? 9 : near(0, 9));
            }
            text.append(";");
        }
        int rules = random.nextInt(10) == 0 ? 12 + upTo(1) : upTo(5) + flows - 1;
        for (int r = 0; r < rules; r++) {
            int least = plan == 0 ? upTo(3) : upTo(255);
            String[] names = {" source ", " target ", " port "};
            text.append("rule").append(names[random.nextInt(3)]).append(least).append(' ')
                    .append(least + upTo(plan == 0 ? 2 : 255 - least)).append(" to ")
                    .append(random.nextInt(60) == 0 ? flows : random.nextInt(flows)).append(';');
        }
        int rate = 1 + upTo(plan == 3 ? 8999 : random.nextBoolean() ? 300 : 2000);
        text.append("link ").append(rate).append("; ");
        if (plan == 3 || random.nextBoolean()) {
            text.append("delay ").append(1 + upTo(random.nextBoolean() ? 49 : 5)).append(" ;");
        }
        if (plan == 3 || random.nextBoolean()) {
            text.append("timeout").append(1 + upTo(plan != 3 && random.nextBoolean() ? 199 : 8)).append(";");
        }
        return text.length() > 800 ? "" : text.toString();
    }

    private String test(int depth) {
        String[] names = {"packet", "flow", "size", "state", "tries", "arrival", "source", "target", "port"};
        int kind = depth == 0 ? 0 : random.nextInt(5);
        if (kind == 1) {
            return "not " + test(depth - 1);
        }
        if (kind == 2) {
            return "(" + test(depth - 1) + ")";
        }
        if (kind > 2) {
            return test(depth - 1) + (kind == 3 ? " and " : " or ") + test(depth - 1);
        }
        String left = names[random.nextInt(9)];
        String right = random.nextInt(4) == 0 ? names[random.nextInt(9)]
                : "" + (random.nextInt(3) == 0 ? upTo(600) : upTo(4));
        char sign = "<=>".charAt(random.nextInt(3));
        return random.nextInt(4) == 0 ? right + sign + left : left + sign + " " + right;
    }

    /** Puts in, takes out or changes a few characters or words. */
    private String spoiled(String text) {
        StringBuilder spoiled = new StringBuilder(text);
        String[] parts = {" ", ";", "(", ")", "not ", "not not not not not ", "((((((", "(((((", " and ", "7", "999999999999", "x",
            "A", "\n", "\u00ff", "\u0000", "flow", "rule", " to ", "00000", " or ", "<", "16", "many", "first", "=",
            "late", "burst ", "1000000", "999999", "\t", "\r", "`", "{", "/", ":"};
        for (int i = 1 + upTo(2); i > 0; i--) {
            int at = upTo(spoiled.length());
            int kind = random.nextInt(3);
            if (kind == 0 || spoiled.length() == 0) {
                spoiled.insert(at, parts[random.nextInt(parts.length)]);
            } else if (kind == 1) {
                spoiled.delete(at, Math.min(spoiled.length(), at + 1 + upTo(4)));
            } else {
                spoiled.setLength(at);
            }
        }
        return spoiled.length() > 800 ? "" : spoiled.toString();
    }
}

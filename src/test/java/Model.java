import java.util.ArrayList;
import java.util.List;
import java.util.NoSuchElementException;

/**
 * The document once more, as slowly and as literally as can be: nothing is counted that can be found by looking,
 * every copy is a whole one, and every pair of records is looked at. ModelTest compares the program with it.
 */
final class Model {
    static final int SCALE = 720720;

    static final class Flow {
        int weight;
        int limit;
        int burst = 0;
        int retries = 3;
        int loss = 0;
        int late = 0;
        int lateTime = 0;
        long virtual = 0;
        int duplicates = 0;
        int chargedAgain = 0;
        int declaredLost = 0;
        int raised = 0;
        List<Integer> queue = new ArrayList<>();
    }

    static final class Packet {
        int flow;
        int size;
        int source;
        int target;
        int port;
        int arrival;
        int state = 0;
        int delivered = -1;
    }

    static final class Sending {
        int packet;
        int tick;
        int acknowledgment;
        int state = 0;
        boolean charged = true;
        long charge;
    }

    static final class Rule {
        int[] least = {0, 0, 0};
        int[] greatest = {255, 255, 255};
        int flow;
    }

    static final class Note {
        long[] bytes;
        boolean[] idle;
    }

    /** Everything that undoing restores, and the settings, which only load changes. */
    static final class State {
        List<Flow> flows = new ArrayList<>();
        List<Rule> rules = new ArrayList<>();
        List<Packet> packets = new ArrayList<>();
        List<Sending> sendings = new ArrayList<>();
        List<Note> notes = new ArrayList<>();
        int rate = 1000;
        int delay = 2;
        int timeout = 5;
        int clock = 0;
        int credit = 0;

        State copy() {
            State c = new State();
            for (Flow f : flows) {
                Flow g = new Flow();
                g.weight = f.weight;
                g.limit = f.limit;
                g.burst = f.burst;
                g.retries = f.retries;
                g.loss = f.loss;
                g.late = f.late;
                g.lateTime = f.lateTime;
                g.virtual = f.virtual;
                g.duplicates = f.duplicates;
                g.chargedAgain = f.chargedAgain;
                g.declaredLost = f.declaredLost;
                g.raised = f.raised;
                g.queue = new ArrayList<>(f.queue);
                c.flows.add(g);
            }
            for (Packet p : packets) {
                Packet q = new Packet();
                q.flow = p.flow;
                q.size = p.size;
                q.source = p.source;
                q.target = p.target;
                q.port = p.port;
                q.arrival = p.arrival;
                q.state = p.state;
                q.delivered = p.delivered;
                c.packets.add(q);
            }
            for (Sending s : sendings) {
                Sending r = new Sending();
                r.packet = s.packet;
                r.tick = s.tick;
                r.acknowledgment = s.acknowledgment;
                r.state = s.state;
                r.charged = s.charged;
                r.charge = s.charge;
                c.sendings.add(r);
            }
            c.rules = rules;
            c.notes = new ArrayList<>(notes);
            c.rate = rate;
            c.delay = delay;
            c.timeout = timeout;
            c.clock = clock;
            c.credit = credit;
            return c;
        }

        int sendingsOfPacket(int packet) {
            int n = 0;
            for (Sending s : sendings) {
                n += s.packet == packet ? 1 : 0;
            }
            return n;
        }

        int sendingsOfFlow(int flow, boolean outstandingOnly) {
            int n = 0;
            for (Sending s : sendings) {
                if (packets.get(s.packet).flow == flow && (!outstandingOnly || s.state == 0)) {
                    n++;
                }
            }
            return n;
        }

        boolean idle(int flow) {
            return flows.get(flow).queue.isEmpty() && sendingsOfFlow(flow, true) == 0;
        }

        int bytesQueued(int flow) {
            int n = 0;
            for (int p : flows.get(flow).queue) {
                n += packets.get(p).size;
            }
            return n;
        }

        long bytesDelivered(int flow) {
            long n = 0;
            for (Packet p : packets) {
                n += p.flow == flow && p.state == 2 ? p.size : 0;
            }
            return n;
        }

        int dropped(int flow) {
            int n = 0;
            for (Packet p : packets) {
                n += p.flow == flow && p.state == 3 ? 1 : 0;
            }
            return n;
        }

        int delivered() {
            int n = 0;
            for (Packet p : packets) {
                n += p.state == 2 ? 1 : 0;
            }
            return n;
        }

        int next() {
            int best = -1;
            for (int f = flows.size() - 1; f >= 0; f--) {
                if (!flows.get(f).queue.isEmpty() && (best < 0 || flows.get(f).virtual <= flows.get(best).virtual)) {
                    best = f;
                }
            }
            return best;
        }

        void refund(Sending s) {
            if (s.charged) {
                flows.get(packets.get(s.packet).flow).virtual -= s.charge;
                s.charged = false;
            }
        }

        void acknowledge(Sending s) {
            Packet p = packets.get(s.packet);
            Flow f = flows.get(p.flow);
            s.state = s.state == 2 ? 3 : 1;
            if (p.state == 2) {
                f.duplicates++;
                refund(s);
                return;
            }
            if (p.state == 0) {
                f.queue.remove((Integer) s.packet);
            }
            p.state = 2;
            p.delivered = clock;
            if (!s.charged) {
                s.charged = true;
                f.virtual += s.charge;
                f.chargedAgain++;
            }
        }

        void declareLost(int number) {
            Sending s = sendings.get(number);
            Packet p = packets.get(s.packet);
            Flow f = flows.get(p.flow);
            s.state = 2;
            f.declaredLost++;
            refund(s);
            int latest = -1;
            for (int i = 0; i < sendings.size(); i++) {
                latest = sendings.get(i).packet == s.packet ? i : latest;
            }
            if (p.state == 1 && latest == number) {
                if (sendingsOfPacket(s.packet) <= f.retries) {
                    p.state = 0;
                    f.queue.add(0, s.packet);
                } else {
                    p.state = 3;
                }
            }
        }

        void send(int flow) {
            Flow f = flows.get(flow);
            int number = f.queue.remove(0);
            Packet p = packets.get(number);
            p.state = 1;
            Sending s = new Sending();
            s.packet = number;
            s.tick = clock;
            s.charge = (long) p.size * SCALE / f.weight;
            sendings.add(s);
            f.virtual += s.charge;
            int n = sendingsOfFlow(flow, false);
            if (f.loss != 0 && n % f.loss == 0) {
                s.acknowledgment = -1;
            } else {
                s.acknowledgment = clock + delay + (f.late != 0 && n % f.late == 0 ? f.lateTime : 0);
            }
            credit -= p.size;
        }

        void tick() {
            for (Sending s : sendings) {
                if (s.acknowledgment == clock) {
                    acknowledge(s);
                }
            }
            for (int i = 0; i < sendings.size(); i++) {
                if (sendings.get(i).state == 0 && sendings.get(i).tick <= clock - timeout) {
                    declareLost(i);
                }
            }
            credit = Math.min(100000, credit + rate);
            while (next() >= 0 && sendings.size() < 300
                    && packets.get(flows.get(next()).queue.get(0)).size <= credit) {
                send(next());
            }
            if (next() < 0) {
                credit = 0;
            }
            clock++;
            Note note = new Note();
            note.bytes = new long[flows.size()];
            note.idle = new boolean[flows.size()];
            for (int f = 0; f < flows.size(); f++) {
                note.bytes[f] = bytesDelivered(f);
                note.idle[f] = idle(f);
            }
            notes.add(note);
            if (notes.size() > 128) {
                notes.remove(0);
            }
        }

        long difference(int a, int b, int i, int j) {
            for (int k = i; k <= j; k++) {
                if (notes.get(k).idle[a] || notes.get(k).idle[b]) {
                    return -1;
                }
            }
            long ofA = (notes.get(j).bytes[a] - notes.get(i).bytes[a]) * SCALE / flows.get(a).weight;
            long ofB = (notes.get(j).bytes[b] - notes.get(i).bytes[b]) * SCALE / flows.get(b).weight;
            return Math.abs(ofA - ofB);
        }
    }

    private State state = new State();
    private State snapshot = null;
    private final List<State> history = new ArrayList<>();
    private final StringBuilder buffer = new StringBuilder();
    private int errorPosition = -1;
    private String formatted = "";

    private static void argument(boolean fine) {
        if (!fine) {
            throw new IllegalArgumentException();
        }
    }

    private static void element(boolean fine) {
        if (!fine) {
            throw new NoSuchElementException();
        }
    }

    private void flowThere(int flow) {
        element(flow >= 0 && flow < state.flows.size());
    }

    private void packetThere(int packet) {
        element(packet >= 0 && packet < state.packets.size());
    }

    private void recordOperation() {
        history.add(state.copy());
        if (history.size() > 10) {
            history.remove(0);
        }
    }

    int feed(int... words) {
        if (buffer.length() + 20 > 800) {
            return -1;
        }
        for (int word : words) {
            buffer.append((char) (word >>> 24)).append((char) (word >>> 16 & 255));
            buffer.append((char) (word >>> 8 & 255)).append((char) (word & 255));
        }
        return buffer.length();
    }

    private String take(int length) {
        String text = buffer.substring(0, length);
        buffer.setLength(0);
        errorPosition = -1;
        return text;
    }

    int load(int length) {
        argument(length >= 0 && length <= buffer.length());
        try {
            state = new ModelReader(take(length), null).text();
        } catch (ModelReader.Fault fault) {
            errorPosition = fault.position;
            return -10 - fault.code;
        }
        history.clear();
        snapshot = null;
        return state.flows.size();
    }

    int query(int length) {
        argument(length >= 0 && length <= 200 && length <= buffer.length());
        String text = take(length);
        int many = 0;
        int first = -1;
        ModelReader reader = null;
        try {
            reader = new ModelReader(text, state);
            reader.query(-1);
            for (int p = 0; p < state.packets.size(); p++) {
                if (new ModelReader(text, state).query(p)) {
                    many++;
                    first = first < 0 ? p : first;
                }
            }
        } catch (ModelReader.Fault fault) {
            errorPosition = fault.position;
            return -1000000000 - fault.code;
        }
        return reader.tokens.get(0).text.equals("many") ? many : first;
    }

    int errorPosition() {
        return errorPosition;
    }

    int[] counts() {
        return new int[] {state.flows.size(), state.rules.size(), state.packets.size(), state.sendings.size(),
            state.clock, state.credit, state.next(), history.size(), errorPosition};
    }

    int classify(int source, int target, int port) {
        int[] address = {source, target, port};
        for (int part : address) {
            argument(part >= 0 && part <= 255);
        }
        if (state.flows.isEmpty()) {
            return -1;
        }
        for (Rule rule : state.rules) {
            boolean inside = true;
            for (int i = 0; i < 3; i++) {
                inside = inside && address[i] >= rule.least[i] && address[i] <= rule.greatest[i];
            }
            if (inside) {
                return rule.flow;
            }
        }
        return 0;
    }

    int flow(int flow, int what) {
        flowThere(flow);
        Flow f = state.flows.get(flow);
        switch (what) {
            case 0: return f.weight;
            case 1: return f.limit;
            case 2: return f.burst;
            case 3: return f.retries;
            case 4: return f.loss;
            case 5: return f.late;
            case 6: return f.lateTime;
            case 7: return f.queue.size();
            case 8: return state.bytesQueued(flow);
            case 9: return state.sendingsOfFlow(flow, false);
            case 10: return (int) state.bytesDelivered(flow);
            case 11: return f.declaredLost;
            case 12: return f.duplicates;
            case 13: return f.chargedAgain;
            case 14: return state.dropped(flow);
            case 15: return f.raised;
            default: throw new NoSuchElementException();
        }
    }

    long virtualTime(int flow) {
        flowThere(flow);
        return state.flows.get(flow).virtual;
    }

    boolean isIdle(int flow) {
        flowThere(flow);
        return state.idle(flow);
    }

    int queued(int flow, int index) {
        flowThere(flow);
        element(index >= 0);
        List<Integer> queue = state.flows.get(flow).queue;
        return index < queue.size() ? queue.get(index) : -1;
    }

    int packet(int packet, int what) {
        packetThere(packet);
        return property(state, packet, what);
    }

    static int property(State state, int packet, int what) {
        Packet p = state.packets.get(packet);
        switch (what) {
            case 0: return p.flow;
            case 1: return p.size;
            case 2: return p.arrival;
            case 3: return p.state;
            case 4: return state.sendingsOfPacket(packet);
            case 5: return p.delivered;
            case 6: return p.source;
            case 7: return p.target;
            case 8: return p.port;
            default: throw new NoSuchElementException();
        }
    }

    int transmission(int number, int what) {
        element(number >= 0 && number < state.sendings.size());
        Sending s = state.sendings.get(number);
        switch (what) {
            case 0: return s.packet;
            case 1: return s.tick;
            case 2: return s.acknowledgment;
            case 3: return s.state;
            case 4: return s.charged ? 1 : 0;
            default: throw new NoSuchElementException();
        }
    }

    long charge(int number) {
        element(number >= 0 && number < state.sendings.size());
        return state.sendings.get(number).charge;
    }

    int outstanding(int flow) {
        flowThere(flow);
        return state.sendingsOfFlow(flow, true);
    }

    int arrive(int source, int target, int port, int size) {
        int flow = classify(source, target, port);
        argument(size >= 1 && size <= 1500);
        if (flow < 0) {
            return -2;
        }
        if (state.packets.size() == 100) {
            return -3;
        }
        if (state.bytesQueued(flow) + size > state.flows.get(flow).limit) {
            return -4;
        }
        recordOperation();
        Flow f = state.flows.get(flow);
        if (state.idle(flow)) {
            Long least = null;
            for (int other = 0; other < state.flows.size(); other++) {
                if (other != flow && !state.idle(other)) {
                    long v = state.flows.get(other).virtual;
                    least = least == null ? v : Math.min(least, v);
                }
            }
            if (least != null && least - (long) f.burst * SCALE / f.weight > f.virtual) {
                f.virtual = least - (long) f.burst * SCALE / f.weight;
                f.raised++;
            }
        }
        Packet p = new Packet();
        p.flow = flow;
        p.size = size;
        p.source = source;
        p.target = target;
        p.port = port;
        p.arrival = state.clock;
        state.packets.add(p);
        f.queue.add(state.packets.size() - 1);
        return state.packets.size() - 1;
    }

    int run(int ticks) {
        argument(ticks >= 0 && ticks <= 500);
        if (state.clock + ticks > 1000000) {
            return -5;
        }
        recordOperation();
        int before = state.delivered();
        for (int i = 0; i < ticks; i++) {
            state.tick();
        }
        return state.delivered() - before;
    }

    int setWeight(int flow, int weight) {
        flowThere(flow);
        argument(weight >= 1 && weight <= 16);
        recordOperation();
        int before = state.flows.get(flow).weight;
        state.flows.get(flow).weight = weight;
        return before;
    }

    long audit(int flow, int other, int age) {
        flowThere(flow);
        flowThere(other);
        argument(flow != other && age >= 0);
        int j = state.notes.size() - 1;
        return j - age < 0 ? -1 : state.difference(flow, other, j - age, j);
    }

    long worst() {
        long worst = 0;
        for (int a = 0; a < state.flows.size(); a++) {
            for (int b = 0; b < a; b++) {
                for (int i = 0; i < state.notes.size(); i++) {
                    for (int j = i; j < state.notes.size(); j++) {
                        if (state.notes.get(j).idle[a] || state.notes.get(j).idle[b]) {
                            break;
                        }
                        worst = Math.max(worst, state.difference(a, b, i, j));
                    }
                }
            }
        }
        return worst;
    }

    long spread() {
        List<Long> times = new ArrayList<>();
        for (int f = 0; f < state.flows.size(); f++) {
            if (!state.idle(f)) {
                times.add(state.flows.get(f).virtual);
            }
        }
        times.sort(null);
        return times.isEmpty() ? 0 : times.get(times.size() - 1) - times.get(0);
    }

    double share(int flow) {
        flowThere(flow);
        long all = 0;
        for (int f = 0; f < state.flows.size(); f++) {
            all += state.bytesDelivered(f);
        }
        return all == 0 ? 0 : (double) state.bytesDelivered(flow) / all;
    }

    float meanDelay(int flow) {
        flowThere(flow);
        int sum = 0;
        int n = 0;
        for (Packet p : state.packets) {
            if (p.flow == flow && p.state == 2) {
                sum += p.delivered - p.arrival;
                n++;
            }
        }
        return n == 0 ? 0 : (float) sum / (float) n;
    }

    private int ticksUntil(State copy, int packet, int limit) {
        for (int ticks = 0; ticks <= limit; ticks++) {
            if (copy.packets.get(packet).state == 2) {
                return ticks;
            }
            copy.tick();
        }
        return -1;
    }

    int forecast(int packet, int limit) {
        packetThere(packet);
        argument(limit >= 0 && limit <= 1000);
        return ticksUntil(state.copy(), packet, limit);
    }

    int weightFor(int packet, int limit) {
        packetThere(packet);
        argument(limit >= 0 && limit <= 300);
        for (int weight = 1; weight <= 16; weight++) {
            State copy = state.copy();
            copy.flows.get(copy.packets.get(packet).flow).weight = weight;
            if (ticksUntil(copy, packet, limit) >= 0) {
                return weight;
            }
        }
        return -1;
    }

    int format(int packet) {
        packetThere(packet);
        Packet p = state.packets.get(packet);
        String[] ends = {"queued", "flying", "at " + p.delivered, "dropped"};
        formatted = "p" + packet + " f" + p.flow + " " + p.size + " " + ends[p.state];
        return formatted.length();
    }

    int formattedByte(int index) {
        return index >= 0 && index < formatted.length() ? formatted.charAt(index) : -1;
    }

    int undo() {
        if (history.isEmpty()) {
            return -1;
        }
        state = history.remove(history.size() - 1);
        return history.size();
    }

    void saveSnapshot() {
        snapshot = state.copy();
    }

    boolean restoreSnapshot() {
        if (snapshot == null) {
            return false;
        }
        state = snapshot.copy();
        history.clear();
        return true;
    }
}

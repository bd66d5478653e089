import java.util.NoSuchElementException;

/** A packet scheduler for one link that is fair in delivered bytes. */
public final class PacketScheduler {
    public static final int NONE = -1;
    public static final int HIDDEN = -1000000000;

    private static final int MOST_BYTES = 800;
    private static final int FED_BYTES = 20;
    private static final int MOST_QUERY_BYTES = 200;
    private static final int MOST_FLOWS = 6;
    private static final int MOST_RULES = 12;
    private static final int MOST_PACKETS = 100;
    private static final int MOST_TRANSMISSIONS = 300;
    private static final int MOST_RECORDS = 128;
    private static final int MOST_UNDOS = 10;
    private static final int MOST_OPEN = 6;
    private static final int MOST_CREDIT = 100000;
    private static final int MOST_CLOCK = 1000000;
    private static final int MOST_RUN = 500;
    private static final int MOST_FORECAST = 1000;
    private static final int MOST_WEIGHT_LIMIT = 300;
    private static final int MOST_WEIGHT = 16;
    private static final int MOST_SIZE = 1500;
    private static final int MOST_ADDRESS = 255;
    private static final int MOST_VALUE = 999999;

    /** The least number that 1 to 16 all divide, so that a charge is always whole. */
    private static final int SCALE = 720720;

    private static final int NOT_ALLOWED = 1;
    private static final int OUT_OF_RANGE = 2;
    private static final int TOO_MANY = 3;

    // The columns of a flow; the first ones are numbered as flow() numbers them.
    private static final int FLOW_WEIGHT = 0;
    private static final int FLOW_LIMIT = 1;
    private static final int FLOW_BURST = 2;
    private static final int FLOW_RETRIES = 3;
    private static final int FLOW_LOSS = 4;
    private static final int FLOW_LATE = 5;
    private static final int FLOW_LATE_TIME = 6;
    private static final int FLOW_QUEUED_PACKETS = 7;
    private static final int FLOW_QUEUED_BYTES = 8;
    private static final int FLOW_SENT = 9;
    private static final int FLOW_DELIVERED_BYTES = 10;
    private static final int FLOW_LOST = 11;
    private static final int FLOW_DUPLICATES = 12;
    private static final int FLOW_CHARGED_AGAIN = 13;
    private static final int FLOW_DROPPED = 14;
    private static final int FLOW_RAISED = 15;
    private static final int FLOW_OUTSTANDING = 16;
    private static final int FLOW_FIRST = 17;
    private static final int FLOW_LAST = 18;
    private static final int FLOW_SETTINGS = 7;
    private static final int FLOW_PROPERTIES = 16;
    private static final int FLOW_WIDTH = 19;

    // The columns of a packet; the first ones are numbered as packet() numbers them.
    private static final int PACKET_FLOW = 0;
    private static final int PACKET_SIZE = 1;
    private static final int PACKET_ARRIVAL = 2;
    private static final int PACKET_STATE = 3;
    private static final int PACKET_TRIES = 4;
    private static final int PACKET_DELIVERED_AT = 5;
    private static final int PACKET_SOURCE = 6;
    private static final int PACKET_TARGET = 7;
    private static final int PACKET_PORT = 8;
    private static final int PACKET_NEXT = 9;
    private static final int PACKET_LATEST = 10;
    private static final int PACKET_PROPERTIES = 9;
    private static final int PACKET_WIDTH = 11;

    // The columns of a transmission; the first ones are numbered as transmission() numbers them.
    private static final int SENDING_PACKET = 0;
    private static final int SENDING_TICK = 1;
    private static final int SENDING_ACKNOWLEDGMENT = 2;
    private static final int SENDING_STATE = 3;
    private static final int SENDING_CHARGED = 4;
    private static final int SENDING_CHARGE = 5;
    private static final int SENDING_PROPERTIES = 5;
    private static final int SENDING_WIDTH = 6;

    // The columns of a rule: three ranges and the flow.
    private static final int RULE_SOURCE = 0;
    private static final int RULE_TARGET = 2;
    private static final int RULE_PORT = 4;
    private static final int RULE_FLOW = 6;
    private static final int RULE_WIDTH = 7;

    private static final int QUEUED = 0;
    private static final int IN_FLIGHT = 1;
    private static final int DELIVERED = 2;
    private static final int DROPPED = 3;

    private static final int OUTSTANDING = 0;
    private static final int ACKNOWLEDGED = 1;
    private static final int LOST = 2;
    private static final int ACKNOWLEDGED_LATE = 3;

    private final Text text;
    private final QueryReader queryReader;
    private final Link link;
    private final Link trial;
    private final Link snapshot;
    private final History history;
    private final StringBuilder formatted;
    private Setup setup;
    private Setup spareSetup;
    private boolean hasSnapshot;

    public PacketScheduler() {
        Text newText = new Text();
        Setup newSetup = new Setup();
        Link newLink = new Link();
        newLink.begin(newSetup);
        text = newText;
        setup = newSetup;
        spareSetup = new Setup();
        link = newLink;
        trial = new Link();
        snapshot = new Link();
        hasSnapshot = false;
        history = new History();
        queryReader = new QueryReader(newText, newLink);
        formatted = new StringBuilder();
    }

    public int feed(int a, int b, int c, int d, int e) {
        if (text.size + FED_BYTES > MOST_BYTES) {
            return NONE;
        }
        text.append(a);
        text.append(b);
        text.append(c);
        text.append(d);
        text.append(e);
        return text.size;
    }

    public int load(int length) throws IllegalArgumentException {
        requireRange(length, 0, text.size);
        text.open(length);
        spareSetup.readFrom(text);
        text.empty();
        if (text.errorCode != 0) {
            return -10 - text.errorCode;
        }
        Setup old = setup;
        setup = spareSetup;
        spareSetup = old;
        link.begin(setup);
        history.forget();
        hasSnapshot = false;
        return link.flowCount;
    }

    public int errorPosition() {
        return text.errorAt;
    }

    public int flowCount() {
        return link.flowCount;
    }

    public int ruleCount() {
        return setup.ruleCount;
    }

    public int packetCount() {
        return link.packetCount;
    }

    public int transmissionCount() {
        return link.transmissionCount;
    }

    public int clock() {
        return link.clock;
    }

    public int credit() {
        return link.credit;
    }

    public int classify(int source, int target, int port) throws IllegalArgumentException {
        requireAddress(source, target, port);
        return setup.flowFor(source, target, port);
    }

    public int flow(int flow, int what) throws NoSuchElementException {
        requireFlow(flow);
        requireProperty(what, FLOW_PROPERTIES);
        return link.flows.get(flow, what);
    }

    public long virtualTime(int flow) throws NoSuchElementException {
        requireFlow(flow);
        return link.virtualOf(flow);
    }

    public boolean isIdle(int flow) throws NoSuchElementException {
        requireFlow(flow);
        return !link.isBusy(flow);
    }

    public int queued(int flow, int index) throws NoSuchElementException {
        requireFlow(flow);
        if (index < 0) {
            throw new NoSuchElementException("the index is negative");
        }
        return link.packetInQueue(flow, index);
    }

    public int nextFlow() {
        return link.flowToServe();
    }

    public int packet(int packet, int what) throws NoSuchElementException {
        requirePacket(packet);
        requireProperty(what, PACKET_PROPERTIES);
        return link.packets.get(packet, what);
    }

    public int transmission(int transmission, int what) throws NoSuchElementException {
        requireTransmission(transmission);
        requireProperty(what, SENDING_PROPERTIES);
        return link.transmissions.get(transmission, what);
    }

    public long charge(int transmission) throws NoSuchElementException {
        requireTransmission(transmission);
        return link.transmissions.get(transmission, SENDING_CHARGE);
    }

    public int outstanding(int flow) throws NoSuchElementException {
        requireFlow(flow);
        return link.flows.get(flow, FLOW_OUTSTANDING);
    }

    public int arrive(int source, int target, int port, int size) throws IllegalArgumentException {
        requireAddress(source, target, port);
        requireRange(size, 1, MOST_SIZE);
        int flow = setup.flowFor(source, target, port);
        if (flow == NONE) {
            return -2;
        }
        if (link.packetCount >= MOST_PACKETS) {
            return -3;
        }
        if (link.flows.get(flow, FLOW_QUEUED_BYTES) + size > link.flows.get(flow, FLOW_LIMIT)) {
            return -4;
        }
        history.keep(link);
        int packet = link.addPacket(flow, size);
        link.packets.set(packet, PACKET_SOURCE, source);
        link.packets.set(packet, PACKET_TARGET, target);
        link.packets.set(packet, PACKET_PORT, port);
        return packet;
    }

    public int run(int ticks) throws IllegalArgumentException {
        requireRange(ticks, 0, MOST_RUN);
        if (link.clock + ticks > MOST_CLOCK) {
            return -5;
        }
        history.keep(link);
        int before = link.deliveredCount;
        for (int left = ticks; left > 0; left--) {
            link.tick();
            // Records before the last 128 ticks would be pushed out by the later ones.
            if (left <= MOST_RECORDS) {
                link.addRecord();
            }
        }
        return link.deliveredCount - before;
    }

    public int setWeight(int flow, int weight) throws NoSuchElementException, IllegalArgumentException {
        requireFlow(flow);
        requireRange(weight, 1, MOST_WEIGHT);
        history.keep(link);
        int before = link.flows.get(flow, FLOW_WEIGHT);
        link.flows.set(flow, FLOW_WEIGHT, weight);
        return before;
    }

    public long audit(int flow, int other, int age) throws NoSuchElementException, IllegalArgumentException {
        requireFlow(flow);
        requireFlow(other);
        if (flow == other || age < 0) {
            throw new IllegalArgumentException("the flows are the same or the age is negative");
        }
        return link.differenceSince(flow, other, age);
    }

    public long worst() {
        long worst = 0;
        for (int flow = 0; flow < link.flowCount; flow++) {
            for (int other = flow + 1; other < link.flowCount; other++) {
                worst = Math.max(worst, link.greatestDifference(flow, other));
            }
        }
        return worst;
    }

    public long spread() {
        int least = link.leastBusyFlow(NONE);
        if (least == NONE) {
            return 0;
        }
        long greatest = link.virtualOf(least);
        for (int flow = 0; flow < link.flowCount; flow++) {
            if (link.isBusy(flow)) {
                greatest = Math.max(greatest, link.virtualOf(flow));
            }
        }
        return greatest - link.virtualOf(least);
    }

    public double share(int flow) throws NoSuchElementException {
        requireFlow(flow);
        int all = 0;
        for (int each = 0; each < link.flowCount; each++) {
            all += link.flows.get(each, FLOW_DELIVERED_BYTES);
        }
        if (all <= 0) {
            return 0.0;
        }
        return (double) link.flows.get(flow, FLOW_DELIVERED_BYTES) / (double) all;
    }

    public float meanDelay(int flow) throws NoSuchElementException {
        requireFlow(flow);
        int sum = 0;
        int number = 0;
        for (int packet = 0; packet < link.packetCount; packet++) {
            if (link.packets.get(packet, PACKET_FLOW) == flow && link.isDelivered(packet)) {
                sum += link.packets.get(packet, PACKET_DELIVERED_AT) - link.packets.get(packet, PACKET_ARRIVAL);
                number++;
            }
        }
        if (number <= 0) {
            return 0.0f;
        }
        return (float) sum / (float) number;
    }

    public int forecast(int packet, int limit) throws NoSuchElementException, IllegalArgumentException {
        requirePacket(packet);
        requireRange(limit, 0, MOST_FORECAST);
        trial.copyTraffic(link);
        return trial.ticksToDeliver(packet, limit);
    }

    public int weightFor(int packet, int limit) throws NoSuchElementException, IllegalArgumentException {
        requirePacket(packet);
        requireRange(limit, 0, MOST_WEIGHT_LIMIT);
        int flow = link.packets.get(packet, PACKET_FLOW);
        for (int weight = 1; weight <= MOST_WEIGHT; weight++) {
            trial.copyTraffic(link);
            trial.flows.set(flow, FLOW_WEIGHT, weight);
            if (trial.ticksToDeliver(packet, limit) != NONE) {
                return weight;
            }
        }
        return NONE;
    }

    public int format(int packet) throws NoSuchElementException {
        requirePacket(packet);
        formatted.setLength(0);
        formatted.append('p').append(packet);
        formatted.append(" f").append(link.packets.get(packet, PACKET_FLOW));
        formatted.append(' ').append(link.packets.get(packet, PACKET_SIZE)).append(' ');
        int state = link.packets.get(packet, PACKET_STATE);
        if (state == QUEUED) {
            formatted.append("queued");
        } else if (state == IN_FLIGHT) {
            formatted.append("flying");
        } else if (state == DROPPED) {
            formatted.append("dropped");
        } else {
            formatted.append("at ").append(link.packets.get(packet, PACKET_DELIVERED_AT));
        }
        return formatted.length();
    }

    public int formattedByte(int index) {
        if (index < 0 || index >= formatted.length()) {
            return NONE;
        }
        return formatted.charAt(index);
    }

    public int undoCount() {
        return history.count;
    }

    public int undo() {
        if (history.count <= 0) {
            return NONE;
        }
        history.giveBack(link);
        return history.count;
    }

    public void saveSnapshot() {
        snapshot.copyFrom(link);
        hasSnapshot = true;
    }

    public boolean restoreSnapshot() {
        if (!hasSnapshot) {
            return false;
        }
        link.copyFrom(snapshot);
        history.forget();
        return true;
    }

    public int query(int length) throws IllegalArgumentException {
        requireRange(length, 0, Math.min(text.size, MOST_QUERY_BYTES));
        text.open(length);
        boolean many = text.isWord("many");
        if (!many && !text.isWord("first")) {
            text.fail(NOT_ALLOWED);
        }
        text.next();
        PacketSet found = queryReader.readTest(0);
        text.requireEnd();
        text.empty();
        if (text.errorCode != 0) {
            return HIDDEN - text.errorCode;
        }
        return many ? found.countBelow(link.packetCount) : found.firstBelow(link.packetCount);
    }

    private static void requireRange(int value, int least, int most) {
        if (value < least || value > most) {
            throw new IllegalArgumentException("a parameter is out of range");
        }
    }

    private static void requireAddress(int source, int target, int port) {
        requireRange(source, 0, MOST_ADDRESS);
        requireRange(target, 0, MOST_ADDRESS);
        requireRange(port, 0, MOST_ADDRESS);
    }

    private static void requireProperty(int what, int properties) {
        if (what < 0 || what >= properties) {
            throw new NoSuchElementException("there is no such property");
        }
    }

    private void requireFlow(int flow) {
        if (flow < 0 || flow >= link.flowCount) {
            throw new NoSuchElementException("there is no such flow");
        }
    }

    private void requirePacket(int packet) {
        if (packet < 0 || packet >= link.packetCount) {
            throw new NoSuchElementException("there is no such packet");
        }
    }

    private void requireTransmission(int transmission) {
        if (transmission < 0 || transmission >= link.transmissionCount) {
            throw new NoSuchElementException("there is no such transmission");
        }
    }

    /** Rows of numbers. Every index is looked at here, so that no use of a table can fail. */
    private static final class Table {
        final int width;
        final int[] cells;

        Table(int rows, int width) {
            this.width = Math.max(width, 1);
            this.cells = new int[Math.max(rows, 0) * this.width];
        }

        int get(int row, int column) {
            int index = row * width + column;
            if (column < 0 || column >= width || index < 0 || index >= cells.length) {
                return NONE;
            }
            return cells[index];
        }

        void set(int row, int column, int value) {
            int index = row * width + column;
            if (column >= 0 && column < width && index >= 0 && index < cells.length) {
                cells[index] = value;
            }
        }

        void add(int row, int column, int amount) {
            int index = row * width + column;
            if (column >= 0 && column < width && index >= 0 && index < cells.length) {
                cells[index] += amount;
            }
        }

        void copyRows(Table from, int rows) {
            int number = Math.min(rows * width, Math.min(cells.length, from.cells.length));
            if (number > 0) {
                System.arraycopy(from.cells, 0, cells, 0, number);
            }
        }
    }

    /** The byte buffer, and the tokens of the text at its start. */
    private static final class Text {
        static final int END = 0;
        static final int BLANK = 1;
        static final int WORD = 2;
        static final int NUMBER = 3;
        static final int SIGN = 4;
        /** What stands for every token behind the first error, so that nothing matches any more. */
        static final int FAULT = 5;

        final byte[] bytes;
        int size;
        int length;
        int kind;
        int start;
        int end;
        int errorCode;
        int errorAt;

        Text() {
            bytes = new byte[MOST_BYTES];
            errorAt = NONE;
        }

        void append(int word) {
            for (int shift = 24; shift >= 0; shift -= 8) {
                if (size >= 0 && size < bytes.length) {
                    bytes[size] = (byte) (word >> shift);
                    size++;
                }
            }
        }

        void empty() {
            size = 0;
        }

        void open(int newLength) {
            length = Math.min(newLength, bytes.length);
            errorCode = 0;
            errorAt = NONE;
            end = 0;
            kind = BLANK;
            next();
        }

        void next() {
            if (kind == FAULT) {
                return;
            }
            int at = end;
            while (at < length && kindAt(at) == BLANK) {
                at++;
            }
            start = at;
            kind = kindAt(at);
            if (kind == SIGN) {
                at++;
            } else {
                while (at < length && kindAt(at) == kind) {
                    at++;
                }
            }
            end = at;
        }

        int kindAt(int index) {
            if (index < 0 || index >= length || index >= bytes.length) {
                return END;
            }
            int sign = bytes[index];
            if (sign == ' ' || sign == '\n') {
                return BLANK;
            }
            if (sign >= 'a' && sign <= 'z') {
                return WORD;
            }
            return sign >= '0' && sign <= '9' ? NUMBER : SIGN;
        }

        int byteAt(int index) {
            return index >= 0 && index < bytes.length ? bytes[index] : NONE;
        }

        boolean goesOn() {
            return kind != END && kind != FAULT;
        }

        boolean isWord(String word) {
            if (kind != WORD || end - start != word.length()) {
                return false;
            }
            for (int i = 0; i < word.length(); i++) {
                if (byteAt(start + i) != word.charAt(i)) {
                    return false;
                }
            }
            return true;
        }

        boolean isSign(char sign) {
            return kind == SIGN && byteAt(start) == sign;
        }

        /** Only the first error counts. */
        void fail(int code) {
            if (kind != FAULT) {
                errorCode = code;
                errorAt = start;
                kind = FAULT;
            }
        }

        /** Stops growing just above the greatest number that is in range anywhere. */
        int number() {
            int number = 0;
            for (int at = start; at < end; at++) {
                number = Math.min(number * 10 + (byteAt(at) - '0'), MOST_VALUE + 1);
            }
            return number;
        }

        int takeNumber(int least, int most) {
            if (kind != NUMBER) {
                fail(NOT_ALLOWED);
                return least;
            }
            int number = number();
            if (number < least || number > most) {
                fail(OUT_OF_RANGE);
                return least;
            }
            next();
            return number;
        }

        void takeSign(char sign) {
            if (!isSign(sign)) {
                fail(NOT_ALLOWED);
            }
            next();
        }

        void takeWord(String word) {
            if (!isWord(word)) {
                fail(NOT_ALLOWED);
            }
            next();
        }

        void requireEnd() {
            if (kind != END) {
                fail(NOT_ALLOWED);
            }
        }
    }

    /** What a text defines: the flows' settings, the rules and the link's numbers. */
    private static final class Setup {
        final Table flows;
        final Table rules;
        int flowCount;
        int ruleCount;
        int rate;
        int delay;
        int timeout;

        Setup() {
            flows = new Table(MOST_FLOWS, FLOW_SETTINGS);
            rules = new Table(MOST_RULES, RULE_WIDTH);
            reset();
        }

        void reset() {
            flowCount = 0;
            ruleCount = 0;
            rate = 1000;
            delay = 2;
            timeout = 5;
        }

        int flowFor(int source, int target, int port) {
            for (int rule = 0; rule < ruleCount; rule++) {
                if (isInRange(rule, RULE_SOURCE, source) && isInRange(rule, RULE_TARGET, target)
                        && isInRange(rule, RULE_PORT, port)) {
                    return rules.get(rule, RULE_FLOW);
                }
            }
            return flowCount > 0 ? 0 : NONE;
        }

        boolean isInRange(int rule, int column, int value) {
            return value >= rules.get(rule, column) && value <= rules.get(rule, column + 1);
        }

        void readFrom(Text text) {
            reset();
            for (int clauses = 0; clauses < MOST_BYTES && text.goesOn(); clauses++) {
                readClause(text);
            }
        }

        void readClause(Text text) {
            if (text.isWord("flow")) {
                readFlow(text);
            } else if (text.isWord("rule")) {
                readRule(text);
            } else if (text.isWord("link")) {
                rate = readSetting(text, 9000);
            } else if (text.isWord("delay")) {
                delay = readSetting(text, 50);
            } else if (text.isWord("timeout")) {
                timeout = readSetting(text, 200);
            } else {
                text.fail(NOT_ALLOWED);
            }
        }

        int readSetting(Text text, int most) {
            text.next();
            int setting = text.takeNumber(1, most);
            text.takeSign(';');
            return setting;
        }

        void readFlow(Text text) {
            if (flowCount >= MOST_FLOWS) {
                text.fail(TOO_MANY);
                return;
            }
            text.next();
            flows.set(flowCount, FLOW_WEIGHT, text.takeNumber(1, MOST_WEIGHT));
            flows.set(flowCount, FLOW_LIMIT, text.takeNumber(1, 60000));
            flows.set(flowCount, FLOW_BURST, 0);
            flows.set(flowCount, FLOW_RETRIES, 3);
            flows.set(flowCount, FLOW_LOSS, 0);
            flows.set(flowCount, FLOW_LATE, 0);
            flows.set(flowCount, FLOW_LATE_TIME, 0);
            for (int options = 0; options < MOST_BYTES && text.kind == Text.WORD; options++) {
                readOption(text);
            }
            text.takeSign(';');
            flowCount++;
        }

        void readOption(Text text) {
            if (text.isWord("burst")) {
                text.next();
                flows.set(flowCount, FLOW_BURST, text.takeNumber(0, 20000));
            } else if (text.isWord("retries")) {
                text.next();
                flows.set(flowCount, FLOW_RETRIES, text.takeNumber(0, 9));
            } else if (text.isWord("loss")) {
                text.next();
                flows.set(flowCount, FLOW_LOSS, text.takeNumber(2, 99));
            } else if (text.isWord("late")) {
                text.next();
                flows.set(flowCount, FLOW_LATE, text.takeNumber(2, 99));
                flows.set(flowCount, FLOW_LATE_TIME, text.takeNumber(1, 200));
            } else {
                text.fail(NOT_ALLOWED);
            }
        }

        void readRule(Text text) {
            if (ruleCount >= MOST_RULES) {
                text.fail(TOO_MANY);
                return;
            }
            text.next();
            for (int column = RULE_SOURCE; column < RULE_FLOW; column += 2) {
                rules.set(ruleCount, column, 0);
                rules.set(ruleCount, column + 1, MOST_ADDRESS);
            }
            for (int conditions = 0; conditions < MOST_BYTES && text.kind == Text.WORD && !text.isWord("to");
                    conditions++) {
                readCondition(text);
            }
            text.takeWord("to");
            rules.set(ruleCount, RULE_FLOW, text.takeNumber(0, flowCount - 1));
            text.takeSign(';');
            ruleCount++;
        }

        void readCondition(Text text) {
            int column = RULE_SOURCE;
            if (text.isWord("target")) {
                column = RULE_TARGET;
            } else if (text.isWord("port")) {
                column = RULE_PORT;
            } else if (!text.isWord("source")) {
                text.fail(NOT_ALLOWED);
            }
            text.next();
            int least = text.takeNumber(0, MOST_ADDRESS);
            rules.set(ruleCount, column, least);
            rules.set(ruleCount, column + 1, text.takeNumber(least, MOST_ADDRESS));
        }
    }

    /** The latest records of the delivered bytes and of the flows that were not idle. */
    private static final class Records {
        static final int BUSY_FLOWS = MOST_FLOWS;

        final Table rows;
        int kept;
        int latest;

        Records() {
            rows = new Table(MOST_RECORDS, MOST_FLOWS + 1);
        }

        void reset() {
            kept = 0;
            latest = NONE;
        }

        /** Makes room for a new record, in the place of the oldest one if there are 128. */
        int addRow() {
            latest = latest + 1 < MOST_RECORDS ? latest + 1 : 0;
            kept = Math.min(kept + 1, MOST_RECORDS);
            return latest;
        }

        int rowOf(int age) {
            return Math.floorMod(latest - age, MOST_RECORDS);
        }

        boolean areBusy(int age, int flow, int other) {
            int busy = rows.get(rowOf(age), BUSY_FLOWS);
            return ((busy >> flow) & (busy >> other) & 1) == 1;
        }

        int bytesOf(int age, int flow) {
            return rows.get(rowOf(age), flow);
        }

        void copyFrom(Records from) {
            kept = from.kept;
            latest = from.latest;
            rows.copyRows(from.rows, kept);
        }
    }

    /** The flows, packets and transmissions, and the tick: all that operations change. */
    private static final class Link {
        static final int NEVER = 2000000000;

        final Table flows;
        final long[] virtualTimes;
        final Table packets;
        final Table transmissions;
        final Records records;
        int flowCount;
        int rate;
        int delay;
        int timeout;
        int packetCount;
        int transmissionCount;
        int clock;
        int credit;
        int queuedCount;
        int deliveredCount;
        /** No transmission below this one can change any more. */
        int firstOpen;
        /** The first tick at which a transmission is acknowledged or declared lost. */
        int nextDue;

        Link() {
            flows = new Table(MOST_FLOWS, FLOW_WIDTH);
            virtualTimes = new long[MOST_FLOWS];
            packets = new Table(MOST_PACKETS, PACKET_WIDTH);
            transmissions = new Table(MOST_TRANSMISSIONS, SENDING_WIDTH);
            records = new Records();
        }

        void begin(Setup setup) {
            flowCount = setup.flowCount;
            rate = setup.rate;
            delay = setup.delay;
            timeout = setup.timeout;
            packetCount = 0;
            transmissionCount = 0;
            clock = 0;
            credit = 0;
            queuedCount = 0;
            deliveredCount = 0;
            firstOpen = 0;
            nextDue = NEVER;
            records.reset();
            for (int flow = 0; flow < flowCount; flow++) {
                beginFlow(flow, setup.flows);
            }
        }

        void beginFlow(int flow, Table settings) {
            for (int column = 0; column < FLOW_WIDTH; column++) {
                flows.set(flow, column, column < FLOW_SETTINGS ? settings.get(flow, column) : 0);
            }
            flows.set(flow, FLOW_FIRST, NONE);
            flows.set(flow, FLOW_LAST, NONE);
            setVirtual(flow, 0);
        }

        void copyFrom(Link from) {
            copyTraffic(from);
            records.copyFrom(from.records);
        }

        /** Leaves out the records, which have no influence on what a tick does. */
        void copyTraffic(Link from) {
            flowCount = from.flowCount;
            rate = from.rate;
            delay = from.delay;
            timeout = from.timeout;
            packetCount = from.packetCount;
            transmissionCount = from.transmissionCount;
            clock = from.clock;
            credit = from.credit;
            queuedCount = from.queuedCount;
            deliveredCount = from.deliveredCount;
            firstOpen = from.firstOpen;
            nextDue = from.nextDue;
            flows.copyRows(from.flows, flowCount);
            packets.copyRows(from.packets, packetCount);
            transmissions.copyRows(from.transmissions, transmissionCount);
            for (int flow = 0; flow < flowCount; flow++) {
                setVirtual(flow, from.virtualOf(flow));
            }
        }

        long virtualOf(int flow) {
            return flow >= 0 && flow < virtualTimes.length ? virtualTimes[flow] : 0;
        }

        void setVirtual(int flow, long time) {
            if (flow >= 0 && flow < virtualTimes.length) {
                virtualTimes[flow] = time;
            }
        }

        /** What one byte costs at the weight of a flow. */
        int unitOf(int flow) {
            int weight = flows.get(flow, FLOW_WEIGHT);
            return weight > 0 ? SCALE / weight : 0;
        }

        boolean isBusy(int flow) {
            return flows.get(flow, FLOW_QUEUED_PACKETS) > 0 || flows.get(flow, FLOW_OUTSTANDING) > 0;
        }

        boolean isDelivered(int packet) {
            return packets.get(packet, PACKET_STATE) == DELIVERED;
        }

        /** The flow with the least virtual time of those that are not idle, but for one. */
        int leastBusyFlow(int except) {
            int least = NONE;
            for (int flow = 0; flow < flowCount; flow++) {
                if (flow != except && isBusy(flow) && (least == NONE || virtualOf(flow) < virtualOf(least))) {
                    least = flow;
                }
            }
            return least;
        }

        int flowToServe() {
            int least = NONE;
            for (int flow = 0; flow < flowCount; flow++) {
                if (flows.get(flow, FLOW_QUEUED_PACKETS) > 0
                        && (least == NONE || virtualOf(flow) < virtualOf(least))) {
                    least = flow;
                }
            }
            return least;
        }

        int packetInQueue(int flow, int index) {
            if (index >= flows.get(flow, FLOW_QUEUED_PACKETS)) {
                return NONE;
            }
            int packet = flows.get(flow, FLOW_FIRST);
            for (int i = 0; i < index; i++) {
                packet = packets.get(packet, PACKET_NEXT);
            }
            return packet;
        }

        void joinEnd(int flow, int packet) {
            int last = flows.get(flow, FLOW_LAST);
            packets.set(packet, PACKET_NEXT, NONE);
            if (last == NONE) {
                flows.set(flow, FLOW_FIRST, packet);
            } else {
                packets.set(last, PACKET_NEXT, packet);
            }
            flows.set(flow, FLOW_LAST, packet);
            countQueued(flow, packet, 1);
        }

        void joinHead(int flow, int packet) {
            packets.set(packet, PACKET_NEXT, flows.get(flow, FLOW_FIRST));
            flows.set(flow, FLOW_FIRST, packet);
            if (flows.get(flow, FLOW_LAST) == NONE) {
                flows.set(flow, FLOW_LAST, packet);
            }
            countQueued(flow, packet, 1);
        }

        /** A late acknowledgment can take a packet out of the middle of its queue. */
        void leaveQueue(int flow, int packet) {
            int before = NONE;
            int at = flows.get(flow, FLOW_FIRST);
            for (int steps = 0; steps < MOST_PACKETS && at != packet; steps++) {
                before = at;
                at = packets.get(at, PACKET_NEXT);
            }
            int after = packets.get(packet, PACKET_NEXT);
            if (before == NONE) {
                flows.set(flow, FLOW_FIRST, after);
            } else {
                packets.set(before, PACKET_NEXT, after);
            }
            if (after == NONE) {
                flows.set(flow, FLOW_LAST, before);
            }
            countQueued(flow, packet, -1);
        }

        void countQueued(int flow, int packet, int number) {
            queuedCount += number;
            flows.add(flow, FLOW_QUEUED_PACKETS, number);
            flows.add(flow, FLOW_QUEUED_BYTES, number * packets.get(packet, PACKET_SIZE));
        }

        int addPacket(int flow, int size) {
            if (!isBusy(flow)) {
                raiseVirtual(flow);
            }
            int packet = packetCount;
            packetCount++;
            packets.set(packet, PACKET_FLOW, flow);
            packets.set(packet, PACKET_SIZE, size);
            packets.set(packet, PACKET_ARRIVAL, clock);
            packets.set(packet, PACKET_STATE, QUEUED);
            packets.set(packet, PACKET_TRIES, 0);
            packets.set(packet, PACKET_DELIVERED_AT, NONE);
            packets.set(packet, PACKET_LATEST, NONE);
            joinEnd(flow, packet);
            return packet;
        }

        /** A flow that was idle may be ahead of the others by its burst, but not by more. */
        void raiseVirtual(int flow) {
            int least = leastBusyFlow(flow);
            if (least == NONE) {
                return;
            }
            long forgiven = (long) flows.get(flow, FLOW_BURST) * unitOf(flow);
            long floor = virtualOf(least) - forgiven;
            if (floor > virtualOf(flow)) {
                setVirtual(flow, floor);
                flows.add(flow, FLOW_RAISED, 1);
            }
        }

        void tick() {
            if (clock >= nextDue) {
                settleDue();
            }
            credit = Math.min(credit + rate, MOST_CREDIT);
            sendQueued();
            if (queuedCount == 0) {
                credit = 0;
            }
            clock++;
        }

        void settleDue() {
            for (int number = firstOpen; number < transmissionCount; number++) {
                if (transmissions.get(number, SENDING_ACKNOWLEDGMENT) == clock) {
                    acknowledge(number);
                }
            }
            for (int number = firstOpen; number < transmissionCount; number++) {
                if (transmissions.get(number, SENDING_STATE) == OUTSTANDING
                        && transmissions.get(number, SENDING_TICK) <= clock - timeout) {
                    declareLost(number);
                }
            }
            while (firstOpen < transmissionCount && dueTick(firstOpen) == NEVER) {
                firstOpen++;
            }
            nextDue = NEVER;
            for (int number = firstOpen; number < transmissionCount; number++) {
                nextDue = Math.min(nextDue, dueTick(number));
            }
        }

        /** When a transmission is acknowledged or declared lost next. */
        int dueTick(int number) {
            int state = transmissions.get(number, SENDING_STATE);
            int acknowledgment = transmissions.get(number, SENDING_ACKNOWLEDGMENT);
            int due = NEVER;
            if (acknowledgment != NONE && (state == OUTSTANDING || state == LOST)) {
                due = acknowledgment;
            }
            if (state == OUTSTANDING) {
                due = Math.min(due, transmissions.get(number, SENDING_TICK) + timeout);
            }
            return due;
        }

        void acknowledge(int number) {
            int packet = transmissions.get(number, SENDING_PACKET);
            int flow = packets.get(packet, PACKET_FLOW);
            int state = packets.get(packet, PACKET_STATE);
            if (transmissions.get(number, SENDING_STATE) == LOST) {
                transmissions.set(number, SENDING_STATE, ACKNOWLEDGED_LATE);
            } else {
                transmissions.set(number, SENDING_STATE, ACKNOWLEDGED);
                flows.add(flow, FLOW_OUTSTANDING, -1);
            }
            if (state == DELIVERED) {
                flows.add(flow, FLOW_DUPLICATES, 1);
                refund(flow, number);
                return;
            }
            if (state == QUEUED) {
                leaveQueue(flow, packet);
            } else if (state == DROPPED) {
                flows.add(flow, FLOW_DROPPED, -1);
            }
            deliver(flow, packet);
            if (transmissions.get(number, SENDING_CHARGED) == 0) {
                flows.add(flow, FLOW_CHARGED_AGAIN, 1);
                transmissions.set(number, SENDING_CHARGED, 1);
                setVirtual(flow, virtualOf(flow) + transmissions.get(number, SENDING_CHARGE));
            }
        }

        void deliver(int flow, int packet) {
            packets.set(packet, PACKET_STATE, DELIVERED);
            packets.set(packet, PACKET_DELIVERED_AT, clock);
            flows.add(flow, FLOW_DELIVERED_BYTES, packets.get(packet, PACKET_SIZE));
            deliveredCount++;
        }

        void declareLost(int number) {
            int packet = transmissions.get(number, SENDING_PACKET);
            int flow = packets.get(packet, PACKET_FLOW);
            transmissions.set(number, SENDING_STATE, LOST);
            flows.add(flow, FLOW_OUTSTANDING, -1);
            flows.add(flow, FLOW_LOST, 1);
            refund(flow, number);
            if (packets.get(packet, PACKET_STATE) != IN_FLIGHT || packets.get(packet, PACKET_LATEST) != number) {
                return;
            }
            if (packets.get(packet, PACKET_TRIES) <= flows.get(flow, FLOW_RETRIES)) {
                packets.set(packet, PACKET_STATE, QUEUED);
                joinHead(flow, packet);
            } else {
                packets.set(packet, PACKET_STATE, DROPPED);
                flows.add(flow, FLOW_DROPPED, 1);
            }
        }

        void refund(int flow, int number) {
            if (transmissions.get(number, SENDING_CHARGED) == 1) {
                transmissions.set(number, SENDING_CHARGED, 0);
                setVirtual(flow, virtualOf(flow) - transmissions.get(number, SENDING_CHARGE));
            }
        }

        void sendQueued() {
            for (int number = transmissionCount; number < MOST_TRANSMISSIONS && queuedCount > 0; number++) {
                int flow = flowToServe();
                int packet = flows.get(flow, FLOW_FIRST);
                int size = packets.get(packet, PACKET_SIZE);
                if (size > credit) {
                    return;
                }
                credit -= size;
                leaveQueue(flow, packet);
                send(number, flow, packet);
            }
        }

        void send(int number, int flow, int packet) {
            int charge = packets.get(packet, PACKET_SIZE) * unitOf(flow);
            transmissionCount = number + 1;
            flows.add(flow, FLOW_SENT, 1);
            flows.add(flow, FLOW_OUTSTANDING, 1);
            packets.set(packet, PACKET_STATE, IN_FLIGHT);
            packets.add(packet, PACKET_TRIES, 1);
            packets.set(packet, PACKET_LATEST, number);
            transmissions.set(number, SENDING_PACKET, packet);
            transmissions.set(number, SENDING_TICK, clock);
            transmissions.set(number, SENDING_ACKNOWLEDGMENT, acknowledgmentTick(flow));
            transmissions.set(number, SENDING_STATE, OUTSTANDING);
            transmissions.set(number, SENDING_CHARGED, 1);
            transmissions.set(number, SENDING_CHARGE, charge);
            setVirtual(flow, virtualOf(flow) + charge);
            nextDue = Math.min(nextDue, dueTick(number));
        }

        /** For the transmission that is being sent and is counted already. */
        int acknowledgmentTick(int flow) {
            int number = flows.get(flow, FLOW_SENT);
            int loss = flows.get(flow, FLOW_LOSS);
            int late = flows.get(flow, FLOW_LATE);
            if (loss > 0 && number % loss == 0) {
                return NONE;
            }
            boolean isLate = late > 0 && number % late == 0;
            return clock + delay + (isLate ? flows.get(flow, FLOW_LATE_TIME) : 0);
        }

        int ticksToDeliver(int packet, int limit) {
            for (int ticks = 0; ticks <= limit; ticks++) {
                if (isDelivered(packet)) {
                    return ticks;
                }
                if (isAtRest()) {
                    return NONE;
                }
                tick();
            }
            return NONE;
        }

        /** Nothing is awaited and nothing can be sent: no tick delivers anything any more. */
        boolean isAtRest() {
            return nextDue == NEVER && (queuedCount == 0 || transmissionCount >= MOST_TRANSMISSIONS);
        }

        void addRecord() {
            int row = records.addRow();
            int busy = 0;
            for (int flow = 0; flow < flowCount; flow++) {
                records.rows.set(row, flow, flows.get(flow, FLOW_DELIVERED_BYTES));
                if (isBusy(flow)) {
                    busy |= 1 << flow;
                }
            }
            records.rows.set(row, Records.BUSY_FLOWS, busy);
        }

        /** How far a flow is before another one in a record; differences of this are what counts. */
        long lead(int flow, int other, int age) {
            return (long) records.bytesOf(age, flow) * unitOf(flow)
                    - (long) records.bytesOf(age, other) * unitOf(other);
        }

        long differenceSince(int flow, int other, int age) {
            if (age >= records.kept) {
                return NONE;
            }
            for (int each = 0; each <= age; each++) {
                if (!records.areBusy(each, flow, other)) {
                    return NONE;
                }
            }
            return Math.abs(lead(flow, other, 0) - lead(flow, other, age));
        }

        /** In a row of records that count together, it lies between the least and the greatest lead. */
        long greatestDifference(int flow, int other) {
            long worst = 0;
            long least = 0;
            long greatest = 0;
            boolean inRow = false;
            for (int age = 0; age < records.kept; age++) {
                if (records.areBusy(age, flow, other)) {
                    long lead = lead(flow, other, age);
                    least = inRow ? Math.min(least, lead) : lead;
                    greatest = inRow ? Math.max(greatest, lead) : lead;
                    worst = Math.max(worst, greatest - least);
                    inRow = true;
                } else {
                    inRow = false;
                }
            }
            return worst;
        }
    }

    /** What the link was before each of the most recent operations. */
    private static final class History {
        final Link[] links;
        int count;
        int latest;

        History() {
            links = new Link[MOST_UNDOS];
        }

        void forget() {
            count = 0;
        }

        /** A place gets its rows when it is first needed, so that an object with a short history stays small. */
        void keep(Link link) {
            latest = latest + 1 < MOST_UNDOS ? latest + 1 : 0;
            count = Math.min(count + 1, MOST_UNDOS);
            if (latest >= 0 && latest < links.length) {
                if (links[latest] == null) {
                    links[latest] = new Link();
                }
                links[latest].copyFrom(link);
            }
        }

        void giveBack(Link link) {
            if (latest >= 0 && latest < links.length && links[latest] != null) {
                link.copyFrom(links[latest]);
            }
            latest = latest > 0 ? latest - 1 : MOST_UNDOS - 1;
            count = Math.max(count - 1, 0);
        }
    }

    /** Packets by number, a bit each. */
    private static final class PacketSet {
        long low;
        long high;

        PacketSet() {
            low = 0;
            high = 0;
        }

        void put(int packet) {
            if (packet < 64) {
                low |= 1L << packet;
            } else {
                high |= 1L << (packet - 64);
            }
        }

        boolean has(int packet) {
            long bits = packet < 64 ? low >>> packet : high >>> (packet - 64);
            return (bits & 1) == 1;
        }

        void addAll(PacketSet other) {
            low |= other.low;
            high |= other.high;
        }

        void keepAll(PacketSet other) {
            low &= other.low;
            high &= other.high;
        }

        void invert() {
            low = ~low;
            high = ~high;
        }

        int countBelow(int packetCount) {
            int number = 0;
            for (int packet = 0; packet < packetCount; packet++) {
                if (has(packet)) {
                    number++;
                }
            }
            return number;
        }

        int firstBelow(int packetCount) {
            for (int packet = 0; packet < packetCount; packet++) {
                if (has(packet)) {
                    return packet;
                }
            }
            return NONE;
        }
    }

    /** Reads a test and finds, part by part, the packets for which it holds. */
    private static final class QueryReader {
        /** A value below 0 is a property: this one minus its column; the packet's number has none. */
        static final int PROPERTY = -1;
        static final int PACKET_NUMBER = PACKET_WIDTH;

        final Text text;
        final Link link;

        QueryReader(Text text, Link link) {
            this.text = text;
            this.link = link;
        }

        PacketSet readTest(int open) {
            PacketSet found = readConjunction(open);
            for (int parts = 0; parts < MOST_QUERY_BYTES && text.isWord("or"); parts++) {
                text.next();
                found.addAll(readConjunction(open));
            }
            return found;
        }

        PacketSet readConjunction(int open) {
            PacketSet found = readFactor(open);
            for (int parts = 0; parts < MOST_QUERY_BYTES && text.isWord("and"); parts++) {
                text.next();
                found.keepAll(readFactor(open));
            }
            return found;
        }

        PacketSet readFactor(int open) {
            boolean isNot = text.isWord("not");
            if (!isNot && !text.isSign('(')) {
                int left = readValue();
                int sign = readComparison();
                return compareAll(left, sign, readValue());
            }
            if (open >= MOST_OPEN) {
                text.fail(TOO_MANY);
                return new PacketSet();
            }
            text.next();
            PacketSet found = isNot ? readFactor(open + 1) : readTest(open + 1);
            if (isNot) {
                found.invert();
            } else {
                text.takeSign(')');
            }
            return found;
        }

        int readValue() {
            if (text.kind != Text.WORD) {
                return text.takeNumber(0, MOST_VALUE);
            }
            int column = namedColumn();
            if (column == NONE) {
                text.fail(NOT_ALLOWED);
            }
            text.next();
            return PROPERTY - column;
        }

        int namedColumn() {
            if (text.isWord("packet")) {
                return PACKET_NUMBER;
            }
            if (text.isWord("flow")) {
                return PACKET_FLOW;
            }
            if (text.isWord("size")) {
                return PACKET_SIZE;
            }
            if (text.isWord("state")) {
                return PACKET_STATE;
            }
            if (text.isWord("tries")) {
                return PACKET_TRIES;
            }
            if (text.isWord("arrival")) {
                return PACKET_ARRIVAL;
            }
            if (text.isWord("source")) {
                return PACKET_SOURCE;
            }
            if (text.isWord("target")) {
                return PACKET_TARGET;
            }
            return text.isWord("port") ? PACKET_PORT : NONE;
        }

        /** -1 for less, 0 for equal, 1 for greater. */
        int readComparison() {
            int sign = text.isSign('<') ? -1 : text.isSign('>') ? 1 : 0;
            if (sign == 0 && !text.isSign('=')) {
                text.fail(NOT_ALLOWED);
            }
            text.next();
            return sign;
        }

        PacketSet compareAll(int left, int sign, int right) {
            PacketSet found = new PacketSet();
            for (int packet = 0; packet < link.packetCount; packet++) {
                if (Integer.compare(valueFor(packet, left), valueFor(packet, right)) == sign) {
                    found.put(packet);
                }
            }
            return found;
        }

        int valueFor(int packet, int value) {
            if (value >= 0) {
                return value;
            }
            int column = PROPERTY - value;
            return column == PACKET_NUMBER ? packet : link.packets.get(packet, column);
        }
    }
}

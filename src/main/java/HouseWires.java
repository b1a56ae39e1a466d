import java.util.NoSuchElementException;

/** A house's wires: lines, devices, couplers and testers that share them; see README.md. */
public final class HouseWires {
    public static final int NONE = -1;

    private static final int FULL = -2;

    private static final int MOST_LINES = 6;
    private static final int MOST_DEVICES = 24;
    private static final int MOST_COUPLERS = 5;
    private static final int MOST_OBJECTS = 12;
    private static final int MOST_LINKS = 24;
    private static final int MOST_FILTERED = 64;
    private static final int MOST_HARMS = 64;
    private static final int MOST_IN_ROW = 8;
    private static final int MOST_SENDINGS = 4;
    private static final int MOST_BUSY = 20;
    private static final int MOST_STEPS = 200;
    private static final int FARTHEST_HARM = 500;
    private static final int TAPE_BYTES = 60;
    private static final int FEED_BYTES = 20;
    private static final int MEMORY_BYTES = 64;
    private static final int HIGHEST_NUMBER = 255;
    private static final int HIGHEST_ADDRESS = 65535;

    private static final int LEAST_BYTES = 8;
    private static final int MOST_BYTES = 23;
    private static final int LAYER_AT = 5;
    private static final int PDU_AT = 6;
    private static final int CONTROL_BASE = 144;
    private static final int NOT_REPEATED = 32;
    private static final int PRIORITY_LOW_BIT = 4;
    private static final int GROUP_BIT = 128;
    private static final int FIRST_HOPS = 6;
    private static final int ENDLESS_HOPS = 7;

    private static final int NO_ANSWER = 0;
    private static final int ACK = 1;
    private static final int NACK = 2;
    private static final int BUSY = 3;

    private static final int SYSTEM = 0;
    private static final int LOW = 3;

    private static final int FLAG_C = 1;
    private static final int FLAG_R = 2;
    private static final int FLAG_W = 4;
    private static final int FLAG_T = 8;
    private static final int FLAG_U = 16;
    private static final int ALL_FLAGS = 31;

    private static final int ASK = 0;
    private static final int TELL = 1;
    private static final int WRITE = 2;

    private static final int[] SIZES = {1, 2, 4, 6, 8, 16, 24, 32};
    private static final int MOST_BITS_IN_ACT = 6;
    private static final int POINT_BITS = 16;
    private static final int HIGHEST_EXPONENT = 15;

    private static final int PASS_FILTERED = 0;
    private static final int PASS_ALL = 1;
    private static final int PASS_NONE = 2;

    private static final int CLOSED = 0;
    private static final int OPEN = 1;
    private static final int WAITS = 2;
    private static final int JOINS = 3;

    private static final int OPENS = 128;
    private static final int CLOSES = 129;
    private static final int TAKES = 194;
    private static final int REFUSES = 195;
    private static final int DATA = 64;
    private static final int ORDER = 2;
    private static final int LAST_TRY = 3;
    private static final int LONGEST_PAUSE = 30;
    private static final int LONGEST_IDLE = 60;

    private static final int MOST_IN_ORDER = 12;
    private static final int MOST_IN_POKE = 4;
    private static final int ORDER_HEAD = 4;
    private static final int ANSWER_ORDER = 64;
    private static final int WRITE_ORDER = 128;

    private final Tally tally;
    private final Line[] lines;
    private final Device[] devices;
    private final Filter[] filters;
    // The sides of coupler c are at 2 c and 2 c + 1.
    private final Port[] ports;
    private final Harms harms;
    private final int[] tape;
    private final Telegram latest;
    private final Telegram heard;
    private int lineCount;
    private int deviceCount;
    private int couplerCount;
    private int tapeLength;
    private int latestLine;
    private int latestAnswer;

    public HouseWires() {
        tally = new Tally();
        lines = new Line[MOST_LINES];
        devices = new Device[MOST_DEVICES];
        filters = new Filter[MOST_COUPLERS];
        ports = new Port[2 * MOST_COUPLERS];
        harms = new Harms();
        tape = new int[TAPE_BYTES];
        latest = new Telegram();
        heard = new Telegram();
        latestLine = NONE;
        latestAnswer = NO_ANSWER;
    }

    public int line(int number) {
        if (lineCount >= MOST_LINES || !isWithin(number, 0, HIGHEST_NUMBER)
                || lineOfNumber(number) != NONE) {
            return NONE;
        }
        lines[lineCount] = new Line(number, 1 << lineCount, tally);
        lineCount++;
        return lineCount - 1;
    }

    public int device(int line, int last) {
        Line home = lineAt(line);
        if (deviceCount >= MOST_DEVICES || home == null || !isWithin(last, 1, HIGHEST_NUMBER)) {
            return NONE;
        }
        int address = 256 * home.number + last;
        if (hasDeviceOf(address)) {
            return NONE;
        }
        Row out = new Row(tally);
        Telegram draft = new Telegram();
        Device made = new Device(address, out, draft, new Connection(address, out, draft));
        home.addDevice(made);
        devices[deviceCount] = made;
        deviceCount++;
        return deviceCount - 1;
    }

    public int coupler(int a, int b) {
        Line one = lineAt(a);
        Line other = lineAt(b);
        if (couplerCount >= MOST_COUPLERS || one == null || other == null || one.isJoinedWith(b)) {
            return NONE;
        }
        Filter filter = new Filter();
        Row intoOne = new Row(tally);
        Row intoOther = new Row(tally);
        Port atOne = new Port(intoOne, intoOther, filter, other.joined);
        Port atOther = new Port(intoOther, intoOne, filter, one.joined);
        joinLines(a, one.joined, b, other.joined);
        one.addPort(atOne);
        other.addPort(atOther);
        filters[couplerCount] = filter;
        ports[2 * couplerCount] = atOne;
        ports[2 * couplerCount + 1] = atOther;
        couplerCount++;
        return couplerCount - 1;
    }

    public boolean mode(int c, int m) {
        Filter filter = filterAt(c);
        if (filter == null || !isWithin(m, PASS_FILTERED, PASS_NONE)) {
            return false;
        }
        filter.mode = m;
        return true;
    }

    public boolean filter(int c, int group, boolean passes) {
        Filter filter = filterAt(c);
        if (filter == null || !isWithin(group, 1, HIGHEST_ADDRESS)) {
            return false;
        }
        return filter.change(group, passes);
    }

    public int object(int d, int size, int flags, int priority) {
        Device device = deviceAt(d);
        if (device == null || !isWithin(size, 0, SIZES.length - 1)
                || !isWithin(flags, 0, ALL_FLAGS) || !isWithin(priority, SYSTEM, LOW)) {
            return NONE;
        }
        return device.addObject(SIZES[size], flags, priority);
    }

    public boolean flags(int d, int o, int flags) {
        GroupObject object = objectAt(d, o);
        if (object == null || !isWithin(flags, 0, ALL_FLAGS)) {
            return false;
        }
        object.flags = flags;
        return true;
    }

    public boolean link(int d, int o, int group) {
        Device device = deviceAt(d);
        return device != null && isWithin(group, 1, HIGHEST_ADDRESS) && device.addLink(o, group);
    }

    public int set(int d, int o, int v) {
        Device device = deviceAt(d);
        return device == null ? NONE : device.changeObject(o, v);
    }

    public int ask(int d, int o) {
        Device device = deviceAt(d);
        return device == null ? NONE : device.askGroup(o);
    }

    public long value(int d, int o) {
        GroupObject object = objectAt(d, o);
        return object == null ? NONE : object.value & 0xFFFFFFFFL;
    }

    public int updated(int d, int o) {
        GroupObject object = objectAt(d, o);
        return object == null ? NONE : object.updates;
    }

    public long hundredths(int d, int o) {
        GroupObject object = objectAt(d, o);
        if (object == null || object.bits != POINT_BITS) {
            return Long.MIN_VALUE;
        }
        int sign = object.value >> 15 & 1;
        int exponent = object.value >> 11 & 15;
        long mantissa = (object.value & 2047) - 2048 * sign;
        return mantissa * (1L << exponent);
    }

    public int point(int d, int o, int v) {
        GroupObject object = objectAt(d, o);
        if (object == null || object.bits != POINT_BITS) {
            return NONE;
        }
        int coded = withPoint(v);
        return coded == NONE ? NONE : set(d, o, coded);
    }

    public boolean connect(int d, int address) {
        Device device = deviceAt(d);
        return device != null && isWithin(address, 0, HIGHEST_ADDRESS)
                && device.connection.join(address);
    }

    public boolean disconnect(int d) {
        Device device = deviceAt(d);
        if (device == null || device.connection.state == CLOSED) {
            return false;
        }
        device.connection.close();
        return true;
    }

    public boolean peek(int d, int at, int n) {
        Device device = deviceAt(d);
        return device != null && isWithin(at, 0, HIGHEST_ADDRESS)
                && isWithin(n, 1, MOST_IN_ORDER) && device.connection.orderRead(at, n);
    }

    public boolean poke(int d, int at, int n, int v) {
        Device device = deviceAt(d);
        return device != null && isWithin(at, 0, HIGHEST_ADDRESS)
                && isWithin(n, 1, MOST_IN_POKE) && device.connection.orderWrite(at, n, v);
    }

    public int memory(int d, int k) {
        Device device = deviceAt(d);
        if (device == null || !isWithin(k, 0, MEMORY_BYTES - 1)) {
            return NONE;
        }
        return device.connection.memory[k];
    }

    public boolean store(int d, int k, int v) {
        Device device = deviceAt(d);
        if (device == null || !isWithin(k, 0, MEMORY_BYTES - 1)) {
            return false;
        }
        device.connection.memory[k] = v & 255;
        return true;
    }

    public int reply(int d, int k) {
        Device device = deviceAt(d);
        if (device == null) {
            return NONE;
        }
        int length = device.connection.answerLength;
        if (k == NONE) {
            return length;
        }
        return isWithin(k, 0, length - 1) ? device.connection.answer[k] : NONE;
    }

    public int connection(int d, int what) {
        Device device = deviceAt(d);
        if (device == null) {
            return NONE;
        }
        switch (what) {
            case 7: return device.out.size;
            case 8: return device.address;
            case 9: return device.busyFor;
            case 10: return device.objectCount;
            case 11: return device.linkCount;
            default: return device.connection.tell(what);
        }
    }

    public boolean busy(int d, int n) {
        Device device = deviceAt(d);
        if (device == null || !isWithin(n, 0, MOST_BUSY)) {
            return false;
        }
        device.busyFor = n;
        return true;
    }

    public int feed(int a, int b, int c, int d, int e) {
        if (tapeLength > TAPE_BYTES - FEED_BYTES) {
            return NONE;
        }
        feedNumber(a);
        feedNumber(b);
        feedNumber(c);
        feedNumber(d);
        feedNumber(e);
        return tapeLength;
    }

    public int end(int n) {
        if (n < 0 || n > tapeLength) {
            return NONE;
        }
        tapeLength = n;
        return n;
    }

    public int raw(int line) {
        Line target = lineAt(line);
        if (target == null || !isWithin(tapeLength, LEAST_BYTES, MOST_BYTES)) {
            return NONE;
        }
        Row out = target.testerOut;
        if (out.isFull()) {
            return FULL;
        }
        // heard is free between two STEPS, so it carries the bytes into the row.
        System.arraycopy(tape, 0, heard.bytes, 0, tapeLength);
        heard.length = tapeLength;
        out.add(heard);
        tapeLength = 0;
        return out.size;
    }

    public boolean harm(int n, int place, int x) {
        if (!isWithin(n, 0, FARTHEST_HARM) || !isWithin(place, 0, MOST_BYTES - 1)
                || !isWithin(x, 1, 255)) {
            return false;
        }
        return harms.add(tally.sent + n, place, x);
    }

    public int step(int n) throws IllegalArgumentException {
        if (!isWithin(n, 1, MOST_STEPS)) {
            throw new IllegalArgumentException("1 to 200 steps");
        }
        int before = tally.sent;
        for (int i = 0; i < n; i++) {
            tally.clock++;
            for (int l = 0; l < lineCount && tally.inRows > 0; l++) {
                Row sender = lines[l].chooseSender();
                if (sender != null) {
                    transmit(l, sender);
                }
            }
            for (int d = 0; d < deviceCount; d++) {
                devices[d].connection.tick();
            }
        }
        return tally.sent - before;
    }

    public int sent(int k) throws NoSuchElementException {
        if (tally.sent > 0 && k == NONE) {
            return latest.length;
        }
        if (!isWithin(k, 0, latest.length - 1)) {
            throw new NoSuchElementException("no such byte was sent");
        }
        return latest.bytes[k];
    }

    public int count(int what) {
        switch (what) {
            case 0: return tally.clock;
            case 1: return lineCount;
            case 2: return deviceCount;
            case 3: return couplerCount;
            case 4: return tally.sent;
            case 5: return tally.done;
            case 6: return tally.lost;
            case 7: return tally.dropped;
            case 8: return tally.passed;
            case 9: return latestAnswer;
            case 10: return latestLine;
            case 11: return tally.inRows;
            case 12: return harms.size;
            case 13: return tapeLength;
            default: return NONE;
        }
    }

    private static boolean isWithin(int number, int least, int most) {
        return number >= least && number <= most;
    }

    private Line lineAt(int l) {
        return isWithin(l, 0, lineCount - 1) ? lines[l] : null;
    }

    private Device deviceAt(int d) {
        return isWithin(d, 0, deviceCount - 1) ? devices[d] : null;
    }

    private Filter filterAt(int c) {
        return isWithin(c, 0, couplerCount - 1) ? filters[c] : null;
    }

    private GroupObject objectAt(int d, int o) {
        Device device = deviceAt(d);
        return device == null ? null : device.findObject(o);
    }

    private int lineOfNumber(int number) {
        for (int l = 0; l < lineCount; l++) {
            if (lines[l].number == number) {
                return l;
            }
        }
        return NONE;
    }

    private boolean hasDeviceOf(int address) {
        for (int d = 0; d < deviceCount; d++) {
            if (devices[d].address == address) {
                return true;
            }
        }
        return false;
    }

    private void joinLines(int a, int joinedA, int b, int joinedB) {
        for (int p = 0; p < 2 * couplerCount; p++) {
            ports[p].widen(a, joinedA, b, joinedB);
        }
        int all = joinedA | joinedB;
        for (int l = 0; l < lineCount; l++) {
            if ((all >> l & 1) == 1) {
                lines[l].joined = all;
            }
        }
    }

    private static int withPoint(int v) {
        for (int e = 0; e <= HIGHEST_EXPONENT; e++) {
            int m = v >> e;
            if (isWithin(m, -2048, 2047)) {
                return (m < 0 ? 1 << 15 : 0) | e << 11 | m & 2047;
            }
        }
        return NONE;
    }

    private void feedNumber(int number) {
        for (int shift = 24; shift >= 0 && tapeLength < TAPE_BYTES; shift -= 8) {
            tape[tapeLength] = number >> shift & 255;
            tapeLength++;
        }
    }

    private void transmit(int l, Row sender) {
        Telegram telegram = sender.slots[0];
        putOnWire(telegram, l);
        boolean isGood = heard.isGood();
        int goalLine = lineOfNumber(heard.goal() >> 8);
        Line line = lines[l];
        Station own = null;
        int answer = NO_ANSWER;
        for (int i = 0; i < line.stationCount; i++) {
            Station station = line.stations[i];
            if (station.out == sender) {
                own = station;
            } else {
                // The answers are numbered so that the one that counts most is the greatest.
                answer = Math.max(answer, isGood ? station.hear(heard, goalLine) : NACK);
            }
        }
        latestAnswer = answer;
        if (answer != ACK && telegram.sendings < MOST_SENDINGS) {
            telegram.markRepeated();
        } else {
            finish(sender, own, answer == ACK);
        }
    }

    private void putOnWire(Telegram telegram, int l) {
        latest.copyBytes(telegram);
        latestLine = l;
        heard.copyBytes(telegram);
        harms.turn(heard, tally.sent);
        tally.sent++;
        telegram.sendings++;
    }

    /** The first telegram leaves its row; the station is null for the TESTER's row. */
    private void finish(Row sender, Station station, boolean isDone) {
        int join = sender.slots[0].join;
        sender.removeFirst();
        if (isDone) {
            tally.done++;
        } else {
            tally.lost++;
        }
        if (station != null) {
            station.learn(join, isDone);
        }
    }

    /** What all parts count together, and the clock that rows stamp telegrams with. */
    private static final class Tally {
        int clock;
        int sent;
        int done;
        int lost;
        int dropped;
        int passed;
        int inRows;
    }

    private static final class Telegram {
        final int[] bytes = new int[MOST_BYTES];
        int length;
        int came;
        int sendings;
        // Which connect() of its device this OPENS is of; 0 for all other telegrams.
        int join;

        void copyBytes(Telegram from) {
            System.arraycopy(from.bytes, 0, bytes, 0, MOST_BYTES);
            length = from.length;
        }

        void begin(int priority, int source, int goal, int goalKind) {
            bytes[0] = CONTROL_BASE + NOT_REPEATED + 4 * priority;
            bytes[1] = source >> 8;
            bytes[2] = source & 255;
            bytes[3] = goal >> 8;
            bytes[4] = goal & 255;
            bytes[LAYER_AT] = goalKind + 16 * FIRST_HOPS;
            length = PDU_AT;
            join = 0;
        }

        void append(int number) {
            // The last place is left for CHECK.
            if (length < MOST_BYTES - 1) {
                bytes[length] = number & 255;
                length++;
            }
        }

        void seal() {
            bytes[LAYER_AT] = bytes[LAYER_AT] & 240 | length - PDU_AT - 1 & 15;
            int check = 255;
            for (int i = 0; i < length; i++) {
                check ^= bytes[i];
            }
            if (length < MOST_BYTES) {
                bytes[length] = check;
                length++;
            }
        }

        boolean isGood() {
            int all = 0;
            for (int i = 0; i < length; i++) {
                all ^= bytes[i];
            }
            return all == 255 && length == LEAST_BYTES + (bytes[LAYER_AT] & 15);
        }

        boolean isRepeated() {
            return (bytes[0] & NOT_REPEATED) == 0;
        }

        void markRepeated() {
            if (!isRepeated() && length > 0) {
                bytes[0] ^= NOT_REPEATED;
                bytes[length - 1] ^= NOT_REPEATED;
            }
        }

        /** SYSTEM and URGENT are those priorities whose lower bit is 0. */
        boolean isPressing() {
            return (bytes[0] & PRIORITY_LOW_BIT) == 0 || isRepeated();
        }

        boolean winsOver(Telegram other) {
            for (int i = 0; i < MOST_BYTES; i++) {
                int mine = i < length ? bytes[i] : 255;
                int its = i < other.length ? other.bytes[i] : 255;
                int differing = mine ^ its;
                if (differing != 0) {
                    int lowestBit = differing & -differing;
                    return (mine & lowestBit) == 0;
                }
            }
            return false;
        }

        boolean isLike(Telegram other) {
            if (length != other.length || ((bytes[0] ^ other.bytes[0]) & ~NOT_REPEATED) != 0) {
                return false;
            }
            for (int i = 1; i < length - 1; i++) {
                if (bytes[i] != other.bytes[i]) {
                    return false;
                }
            }
            return true;
        }

        boolean isOfGroup() {
            return (bytes[LAYER_AT] & GROUP_BIT) != 0;
        }

        int source() {
            return bytes[1] << 8 | bytes[2];
        }

        int goal() {
            return bytes[3] << 8 | bytes[4];
        }

        int hops() {
            return bytes[LAYER_AT] >> 4 & 7;
        }

        int pduLength() {
            return length - PDU_AT - 1;
        }

        /** Makes of a good telegram the one that a coupler sends on. */
        void passOn() {
            bytes[0] |= NOT_REPEATED;
            if (isWithin(hops(), 1, ENDLESS_HOPS - 1)) {
                bytes[LAYER_AT] -= 16;
            }
            length = Math.max(length - 1, 0);
            seal();
        }
    }

    /** An OUT row; its telegrams are made once and go round, so that steps make no objects. */
    private static final class Row {
        final Telegram[] slots;
        final Tally tally;
        int size;

        Row(Tally tally) {
            this.tally = tally;
            slots = new Telegram[MOST_IN_ROW];
            for (int i = 0; i < MOST_IN_ROW; i++) {
                slots[i] = new Telegram();
            }
        }

        boolean isFull() {
            return size >= MOST_IN_ROW;
        }

        /** The place that holds the telegram now; null if it was dropped. */
        Telegram add(Telegram telegram) {
            if (size >= MOST_IN_ROW) {
                tally.dropped++;
                return null;
            }
            Telegram slot = slots[size];
            // Written out, for a call more would go deeper than LANGUAGE.md lets calls go.
            for (int i = 0; i < MOST_BYTES; i++) {
                slot.bytes[i] = telegram.bytes[i];
            }
            slot.length = telegram.length;
            slot.join = telegram.join;
            slot.came = tally.clock;
            slot.sendings = 0;
            size++;
            tally.inRows++;
            return slot;
        }

        /** The first telegram, if it came ahead of this step. */
        Telegram ready() {
            return size > 0 && slots[0].came < tally.clock ? slots[0] : null;
        }

        void removeFirst() {
            if (size == 0) {
                return;
            }
            Telegram first = slots[0];
            for (int i = 1; i < size; i++) {
                slots[i - 1] = slots[i];
            }
            size--;
            slots[size] = first;
            tally.inRows--;
        }
    }

    /** What hears a line and sends on it; of the TESTER there is but the row, for it hears nothing. */
    private abstract static class Station {
        final Row out;
        final Telegram latestDone;

        Station(Row out) {
            this.out = out;
            latestDone = new Telegram();
        }

        /** Hears a good telegram: its answer. */
        abstract int hear(Telegram heard, int goalLine);

        /** Its own telegram has left the row, done or lost. */
        abstract void learn(int join, boolean isDone);

        final boolean didAlready(Telegram heard) {
            return heard.isRepeated() && heard.isLike(latestDone);
        }
    }

    private static final class Line {
        final int number;
        final Row testerOut;
        // Devices, then the sides of couplers: those that hear, in their order.
        final Station[] stations;
        int stationCount;
        int deviceCount;
        // Bit l: line l is this one, or joined with it.
        int joined;

        Line(int number, int ownBit, Tally tally) {
            this.number = number;
            joined = ownBit;
            testerOut = new Row(tally);
            stations = new Station[MOST_DEVICES + MOST_COUPLERS];
        }

        boolean isJoinedWith(int l) {
            return (joined >> l & 1) == 1;
        }

        void addDevice(Device device) {
            if (stationCount >= stations.length) {
                return;
            }
            for (int i = stationCount; i > deviceCount; i--) {
                stations[i] = stations[i - 1];
            }
            stations[deviceCount] = device;
            deviceCount++;
            stationCount++;
        }

        void addPort(Port port) {
            if (stationCount < stations.length) {
                stations[stationCount] = port;
                stationCount++;
            }
        }

        /** The row whose station wins the wire in this step; null if none wants to send. */
        Row chooseSender() {
            Row best = null;
            Telegram bestFirst = null;
            for (int i = 0; i <= stationCount; i++) {
                Row out = i < stationCount ? stations[i].out : testerOut;
                Telegram first = out.ready();
                if (first != null && (bestFirst == null || goesAhead(first, bestFirst))) {
                    best = out;
                    bestFirst = first;
                }
            }
            return best;
        }

        private static boolean goesAhead(Telegram first, Telegram second) {
            if (first.isPressing() != second.isPressing()) {
                return first.isPressing();
            }
            return first.winsOver(second);
        }
    }

    /** What the two sides of a coupler let through of groups. */
    private static final class Filter {
        final int[] groups = new int[MOST_FILTERED];
        int size;
        int mode = PASS_FILTERED;

        boolean passes(int group) {
            if (mode == PASS_FILTERED) {
                return group == 0 || placeOf(group) != NONE;
            }
            return mode == PASS_ALL;
        }

        boolean change(int group, boolean passes) {
            int place = placeOf(group);
            if (place == NONE && size >= MOST_FILTERED) {
                return false;
            }
            if (passes && place == NONE) {
                groups[size] = group;
                size++;
            }
            if (!passes && place != NONE) {
                size--;
                groups[place] = groups[size];
            }
            return true;
        }

        private int placeOf(int group) {
            for (int i = 0; i < size; i++) {
                if (groups[i] == group) {
                    return i;
                }
            }
            return NONE;
        }
    }

    /** One side of a coupler: it hears its line and sends on into the other one. */
    private static final class Port extends Station {
        final Row across;
        final Filter filter;
        // Bit l: line l is the other one, or joined with it without this coupler.
        int behind;

        Port(Row out, Row across, Filter filter, int behind) {
            super(out);
            this.across = across;
            this.filter = filter;
            this.behind = behind;
        }

        /** Lines a and b become joined, with all that each was joined with. */
        void widen(int a, int joinedA, int b, int joinedB) {
            if (leadsTo(a)) {
                behind |= joinedB;
            } else if (leadsTo(b)) {
                behind |= joinedA;
            }
        }

        int hear(Telegram heard, int goalLine) {
            boolean passes = heard.isOfGroup() ? filter.passes(heard.goal()) : leadsTo(goalLine);
            if (!passes || heard.hops() == 0) {
                return NO_ANSWER;
            }
            if (across.isFull()) {
                return BUSY;
            }
            if (!didAlready(heard)) {
                latestDone.copyBytes(heard);
                Telegram passed = across.add(heard);
                if (passed != null) {
                    passed.passOn();
                }
                across.tally.passed++;
            }
            return ACK;
        }

        void learn(int join, boolean isDone) {
            // A coupler has no connections that wait for what it sent.
        }

        private boolean leadsTo(int l) {
            return l != NONE && (behind >> l & 1) == 1;
        }
    }

    private static final class GroupObject {
        final int bits;
        final int priority;
        int flags;
        int value;
        int updates;

        GroupObject(int bits, int flags, int priority) {
            this.bits = bits;
            this.flags = flags;
            this.priority = priority;
        }

        boolean has(int wanted) {
            return (flags & wanted) == wanted;
        }

        int lowestBits(int number) {
            return bits >= 32 ? number : number & (1 << bits) - 1;
        }

        int bytesBehind() {
            return bits <= MOST_BITS_IN_ACT ? 0 : bits / 8;
        }

        /** Takes the value of a TELL or WRITE, if it has as many bytes as this object's. */
        void takeFrom(Telegram heard) {
            int behind = bytesBehind();
            if (heard.pduLength() != 2 + behind) {
                return;
            }
            int number = behind == 0 ? heard.bytes[PDU_AT + 1] : 0;
            for (int i = 0; i < behind; i++) {
                number = number << 8 | heard.bytes[PDU_AT + 2 + i];
            }
            value = lowestBits(number);
            updates++;
        }
    }

    private static final class Device extends Station {
        final int address;
        final Connection connection;
        final Telegram draft;
        final GroupObject[] objects;
        final int[] linkedObjects;
        final int[] linkedGroups;
        int objectCount;
        int linkCount;
        int busyFor;

        Device(int address, Row out, Telegram draft, Connection connection) {
            super(out);
            this.address = address;
            this.draft = draft;
            this.connection = connection;
            objects = new GroupObject[MOST_OBJECTS];
            linkedObjects = new int[MOST_LINKS];
            linkedGroups = new int[MOST_LINKS];
        }

        GroupObject findObject(int o) {
            return isWithin(o, 0, objectCount - 1) ? objects[o] : null;
        }

        int addObject(int bits, int flags, int priority) {
            if (objectCount >= MOST_OBJECTS) {
                return NONE;
            }
            objects[objectCount] = new GroupObject(bits, flags, priority);
            objectCount++;
            return objectCount - 1;
        }

        boolean addLink(int o, int group) {
            if (findObject(o) == null || linkCount >= MOST_LINKS) {
                return false;
            }
            for (int i = 0; i < linkCount; i++) {
                if (linkedObjects[i] == o && linkedGroups[i] == group) {
                    return false;
                }
            }
            linkedObjects[linkCount] = o;
            linkedGroups[linkCount] = group;
            linkCount++;
            return true;
        }

        int changeObject(int o, int v) {
            GroupObject object = findObject(o);
            if (object == null) {
                return NONE;
            }
            int group = ownGroup(o);
            boolean sends = group != NONE && object.has(FLAG_C | FLAG_T);
            if (sends && out.isFull()) {
                return FULL;
            }
            object.value = object.lowestBits(v);
            if (sends) {
                sendToGroup(WRITE, object, group);
            }
            return out.size;
        }

        int askGroup(int o) {
            GroupObject object = findObject(o);
            int group = ownGroup(o);
            if (object == null || group == NONE || !object.has(FLAG_C | FLAG_T)) {
                return NONE;
            }
            if (out.isFull()) {
                return FULL;
            }
            sendToGroup(ASK, object, group);
            return out.size;
        }

        int hear(Telegram heard, int goalLine) {
            if (!isFor(heard)) {
                return NO_ANSWER;
            }
            if (busyFor > 0) {
                busyFor--;
                return BUSY;
            }
            if (out.isFull()) {
                return BUSY;
            }
            if (!didAlready(heard)) {
                latestDone.copyBytes(heard);
                if (heard.isOfGroup()) {
                    serveGroup(heard);
                } else {
                    connection.receive(heard);
                }
            }
            return ACK;
        }

        void learn(int join, boolean isDone) {
            connection.finishJoin(join, isDone);
        }

        private boolean isFor(Telegram heard) {
            int goal = heard.goal();
            if (!heard.isOfGroup()) {
                return goal == address;
            }
            for (int i = 0; i < linkCount; i++) {
                if (linkedGroups[i] == goal) {
                    return true;
                }
            }
            return false;
        }

        private int ownGroup(int o) {
            for (int i = 0; i < linkCount; i++) {
                if (linkedObjects[i] == o) {
                    return linkedGroups[i];
                }
            }
            return NONE;
        }

        private void serveGroup(Telegram heard) {
            if (heard.pduLength() < 2 || heard.bytes[PDU_AT] != 0) {
                return;
            }
            int act = heard.bytes[PDU_AT + 1] >> 6;
            int group = heard.goal();
            for (int i = 0; i < linkCount; i++) {
                GroupObject object = findObject(linkedObjects[i]);
                if (linkedGroups[i] == group && object != null) {
                    serveObject(object, act, group, heard);
                }
            }
        }

        private void serveObject(GroupObject object, int act, int group, Telegram heard) {
            if (act == ASK && heard.pduLength() == 2 && object.has(FLAG_C | FLAG_R)) {
                sendToGroup(TELL, object, group);
            } else if (act == TELL && object.has(FLAG_C | FLAG_U)) {
                object.takeFrom(heard);
            } else if (act == WRITE && object.has(FLAG_C | FLAG_W)) {
                object.takeFrom(heard);
            }
        }

        private void sendToGroup(int act, GroupObject object, int group) {
            int behind = act == ASK ? 0 : object.bytesBehind();
            boolean isWithAct = act != ASK && behind == 0;
            draft.begin(object.priority, address, group, GROUP_BIT);
            draft.append(0);
            draft.append(64 * act + (isWithAct ? object.value : 0));
            for (int shift = 8 * behind - 8; shift >= 0; shift -= 8) {
                draft.append(object.value >> shift);
            }
            draft.seal();
            out.add(draft);
        }
    }

    /** A device's connection, and the memory that is read and written over it. */
    private static final class Connection {
        final int address;
        final Row out;
        final Telegram draft;
        // The latest DATA, as it was meant: it may have to be sent again.
        final Telegram kept;
        final int[] memory;
        final int[] answer;
        int answerLength;
        int state = CLOSED;
        int partner;
        int sentNumber;
        int gotNumber;
        int tries;
        int pause;
        int idle;
        int joins;

        Connection(int address, Row out, Telegram draft) {
            this.address = address;
            this.out = out;
            this.draft = draft;
            kept = new Telegram();
            memory = new int[MEMORY_BYTES];
            answer = new int[MOST_IN_ORDER];
        }

        int tell(int what) {
            boolean isLive = state == OPEN || state == WAITS;
            switch (what) {
                case 0: return state;
                case 1: return state == CLOSED ? NONE : partner;
                case 2: return state == CLOSED ? 0 : sentNumber;
                case 3: return state == CLOSED ? 0 : gotNumber;
                case 4: return state == WAITS ? tries : 0;
                case 5: return state == WAITS ? pause : 0;
                case 6: return isLive ? idle : 0;
                default: return NONE;
            }
        }

        boolean join(int goal) {
            if (state != CLOSED || out.isFull()) {
                return false;
            }
            start(JOINS, goal);
            joins++;
            draft.begin(SYSTEM, address, goal, 0);
            draft.append(OPENS);
            draft.seal();
            draft.join = joins;
            out.add(draft);
            return true;
        }

        void finishJoin(int join, boolean isDone) {
            if (state == JOINS && join == joins) {
                state = isDone ? OPEN : CLOSED;
                idle = 0;
            }
        }

        void close() {
            sendControl(CLOSES, partner);
            state = CLOSED;
        }

        boolean orderRead(int at, int n) {
            if (state != OPEN || out.isFull()) {
                return false;
            }
            beginOrder(n, at);
            sendOrder();
            return true;
        }

        boolean orderWrite(int at, int n, int v) {
            if (state != OPEN || out.isFull()) {
                return false;
            }
            beginOrder(WRITE_ORDER + n, at);
            for (int shift = 8 * n - 8; shift >= 0; shift -= 8) {
                kept.append(v >> shift);
            }
            sendOrder();
            return true;
        }

        void receive(Telegram heard) {
            int from = heard.source();
            int first = heard.bytes[PDU_AT];
            int number = first >> 2 & 15;
            if (heard.pduLength() > 1) {
                boolean isData = (first & 192) == DATA;
                if (isData && takesData(from, number) && (first & 3) == ORDER) {
                    obey(heard);
                }
            } else if (first == OPENS) {
                beOpened(from);
            } else if (first == CLOSES && isPartner(from)) {
                state = CLOSED;
            } else if ((first & TAKES) == TAKES && isPartner(from) && state != JOINS) {
                boolean isAwaited = state == WAITS && number == sentNumber;
                if (!isAwaited) {
                    close();
                } else if ((first & 3) == (REFUSES & 3)) {
                    sendAgain();
                } else {
                    proceed();
                }
            }
        }

        void tick() {
            if (state == WAITS) {
                pause++;
                if (pause >= LONGEST_PAUSE) {
                    sendAgain();
                }
            }
            if (state == OPEN || state == WAITS) {
                idle++;
                if (idle >= LONGEST_IDLE) {
                    close();
                }
            }
        }

        private boolean isPartner(int from) {
            return state != CLOSED && from == partner;
        }

        private void start(int newState, int newPartner) {
            state = newState;
            partner = newPartner;
            sentNumber = 0;
            gotNumber = 0;
            idle = 0;
        }

        private void beOpened(int from) {
            if (state == CLOSED) {
                start(OPEN, from);
            } else if (from != partner) {
                sendControl(CLOSES, from);
            }
        }

        private void proceed() {
            state = OPEN;
            sentNumber = sentNumber + 1 & 15;
            idle = 0;
        }

        private void sendAgain() {
            if (tries >= LAST_TRY) {
                close();
                return;
            }
            tries++;
            pause = 0;
            out.add(kept);
        }

        /** Answers DATA; true if they are the next ones, so that what they tell is to be done. */
        private boolean takesData(int from, int number) {
            if (!isPartner(from) || state == JOINS) {
                sendControl(CLOSES, from);
                return false;
            }
            idle = 0;
            if (number == gotNumber) {
                sendControl(TAKES + 4 * number, from);
                gotNumber = gotNumber + 1 & 15;
                return true;
            }
            boolean isLatest = number == (gotNumber - 1 & 15);
            sendControl((isLatest ? TAKES : REFUSES) + 4 * number, from);
            return false;
        }

        private void obey(Telegram heard) {
            int length = heard.pduLength();
            if (length < ORDER_HEAD) {
                return;
            }
            int order = heard.bytes[PDU_AT + 1];
            int n = order & 63;
            int place = heard.bytes[PDU_AT + 2] << 8 | heard.bytes[PDU_AT + 3];
            if (n > MOST_IN_ORDER) {
                return;
            }
            int kind = order - n;
            if (kind == 0 && n > 0 && length == ORDER_HEAD) {
                answerRead(place, n);
            } else if (kind == WRITE_ORDER && length == ORDER_HEAD + n && place + n <= MEMORY_BYTES) {
                System.arraycopy(heard.bytes, PDU_AT + ORDER_HEAD, memory, place, n);
            } else if (kind == ANSWER_ORDER && length == ORDER_HEAD + n) {
                System.arraycopy(heard.bytes, PDU_AT + ORDER_HEAD, answer, 0, n);
                answerLength = n;
            }
        }

        private void answerRead(int place, int n) {
            if (state != OPEN) {
                return;
            }
            int told = place + n > MEMORY_BYTES ? 0 : n;
            beginOrder(ANSWER_ORDER + told, place);
            for (int i = 0; i < told; i++) {
                kept.append(memory[place + i]);
            }
            sendOrder();
        }

        private void sendControl(int pdu, int goal) {
            draft.begin(SYSTEM, address, goal, 0);
            draft.append(pdu);
            draft.seal();
            out.add(draft);
        }

        private void beginOrder(int order, int place) {
            kept.begin(SYSTEM, address, partner, 0);
            kept.append(DATA + ORDER + 4 * sentNumber);
            kept.append(order);
            kept.append(place >> 8);
            kept.append(place);
        }

        private void sendOrder() {
            kept.seal();
            state = WAITS;
            tries = 0;
            pause = 0;
            idle = 0;
            out.add(kept);
        }
    }

    /** The harms of telegrams that are still to be sent. */
    private static final class Harms {
        final int[] numbers = new int[MOST_HARMS];
        final int[] places = new int[MOST_HARMS];
        final int[] turns = new int[MOST_HARMS];
        int size;

        boolean add(int number, int place, int turn) {
            for (int i = 0; i < size; i++) {
                if (numbers[i] == number && places[i] == place) {
                    turns[i] = turn;
                    return true;
                }
            }
            if (size >= MOST_HARMS) {
                return false;
            }
            numbers[size] = number;
            places[size] = place;
            turns[size] = turn;
            size++;
            return true;
        }

        /** Turns the bytes of the telegram of that number; its harms are told no more. */
        void turn(Telegram telegram, int number) {
            int left = 0;
            for (int i = 0; i < size; i++) {
                if (numbers[i] != number) {
                    numbers[left] = numbers[i];
                    places[left] = places[i];
                    turns[left] = turns[i];
                    left++;
                } else if (places[i] < telegram.length) {
                    telegram.bytes[places[i]] ^= turns[i];
                }
            }
            size = left;
        }
    }
}

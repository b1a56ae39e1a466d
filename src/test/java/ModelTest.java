import java.util.NoSuchElementException;
import java.util.Random;

/** Runs of calls, always the same ones, on the class and on the Model: the answers are the same. */
public final class ModelTest {
    private static final int RUNS = 3000;
    // An object is promised for 512 calls; the last turn of a run takes fewer than 12.
    private static final int CALLS = 500;
    private static final int LOOKS = 2;

    private final Random random;
    private final HouseWires x = new HouseWires();
    private final Model m = new Model();
    private final Check check;
    private final int run;
    private boolean isWrong;
    private int calls;
    private int[] tape = {};

    private ModelTest(int run, Check check) {
        this.run = run;
        this.check = check;
        random = new Random(run);
    }

    public static void main(String[] args) {
        Check check = new Check("ModelTest");
        for (int run = 0; run < RUNS; run++) {
            new ModelTest(run, check).go();
        }
        check.end();
    }

    private void go() {
        build();
        // What comes behind the first wrong answer of a run tells nothing more.
        while (calls < CALLS && !isWrong) {
            act();
            for (int i = 0; i < LOOKS; i++) {
                look();
            }
        }
    }

    private void same(String what, long got, long want) {
        calls++;
        if (got != want && !isWrong) {
            isWrong = true;
            check.due("run " + run + ", call " + calls + ", " + what, got, want);
        }
    }

    private void same(String what, boolean got, boolean want) {
        same(what, got ? 1 : 0, want ? 1 : 0);
    }

    private int below(int n) {
        return random.nextInt(n);
    }

    private boolean once(int n) {
        return random.nextInt(n) == 0;
    }

    /** A number of 0 to n - 1, at times one just outside. */
    private int near(int n) {
        return once(25) ? (once(2) ? -1 : n) : below(Math.max(n, 1));
    }

    private int group() {
        return once(30) ? new int[] {0, -1, 65536, 65535}[below(4)] : 1 + below(4);
    }

    private int lineNumber(int l) {
        return l * 3 + 1;
    }

    private int address() {
        return 256 * lineNumber(below(4)) + 1 + below(5);
    }

    private int anyDevice() {
        return near(m.count(2));
    }

    private void build() {
        int lines = 1 + below(once(3) ? 6 : 3);
        for (int l = 0; l < lines; l++) {
            same("line", x.line(lineNumber(l)), m.line(lineNumber(l)));
        }
        for (int i = 0; i < 2 * lines; i++) {
            int a = below(lines);
            int b = below(lines);
            same("coupler", x.coupler(a, b), m.coupler(a, b));
        }
        for (int i = 0; i < m.count(3); i++) {
            int mode = below(3) * below(2);
            int filtered = 1 + below(4);
            same("mode", x.mode(i, mode), m.mode(i, mode));
            same("filter", x.filter(i, filtered, true), m.filter(i, filtered, true));
        }
        int devices = 1 + below(8);
        for (int i = 0; i < devices; i++) {
            int home = below(lines);
            int last = 1 + below(5);
            same("device", x.device(home, last), m.device(home, last));
        }
        for (int i = 0; i < 2 * devices; i++) {
            addObject();
            addLink();
        }
    }

    private void addObject() {
        int d = anyDevice();
        int size = near(8);
        int flags = once(3) ? near(32) : 31;
        int priority = near(4);
        same("object", x.object(d, size, flags, priority), m.object(d, size, flags, priority));
    }

    private void addLink() {
        int d = anyDevice();
        int o = near(Math.max(1, m.connection(d, 10)));
        int group = group();
        same("link", x.link(d, o, group), m.link(d, o, group));
    }

    private void act() {
        int kind = below(100);
        if (kind < 30) {
            stepCall();
        } else if (kind < 50) {
            objectCall();
        } else if (kind < 72) {
            connectionCall();
        } else if (kind < 90) {
            rawCall();
        } else if (kind < 95) {
            harmCall();
        } else {
            networkCall();
        }
    }

    private void stepCall() {
        int n = once(12) ? near(80) : once(40) ? 195 + below(8) : 1 + below(3);
        int got;
        int want;
        try {
            got = x.step(n);
        } catch (IllegalArgumentException e) {
            got = Check.THROWS;
        }
        try {
            want = m.step(n);
        } catch (IllegalArgumentException e) {
            want = Check.THROWS;
        }
        same("step " + n, got, want);
    }

    private void objectCall() {
        int d = anyDevice();
        int o = near(Math.max(1, m.connection(d, 10)));
        int v = once(2) ? random.nextInt() : below(70000) - 5000;
        switch (below(6)) {
            case 0 -> same("ask", x.ask(d, o), m.ask(d, o));
            case 1 -> same("point " + v, x.point(d, o, v), m.point(d, o, v));
            case 2 -> {
                int flags = near(32);
                same("flags", x.flags(d, o, flags), m.flags(d, o, flags));
            }
            default -> same("set " + v, x.set(d, o, v), m.set(d, o, v));
        }
    }

    private void connectionCall() {
        int d = anyDevice();
        int at = once(4) ? near(65536) : near(66);
        int n = near(14);
        int v = random.nextInt();
        switch (below(8)) {
            case 0, 1 -> {
                int goal = once(20) ? near(65536) : address();
                same("connect", x.connect(d, goal), m.connect(d, goal));
            }
            case 2 -> {
                if (once(3)) {
                    same("disconnect", x.disconnect(d), m.disconnect(d));
                }
            }
            case 3, 4 -> same("peek", x.peek(d, at, n), m.peek(d, at, n));
            case 5 -> same("poke", x.poke(d, at, n % 6, v), m.poke(d, at, n % 6, v));
            case 6 -> same("store", x.store(d, at, v), m.store(d, at, v));
            default -> {
                int times = once(4) ? near(21) : below(3);
                same("busy", x.busy(d, times), m.busy(d, times));
            }
        }
    }

    private int[] pdu() {
        int[] pdu = new int[once(3) ? 1 + below(16) : 1 + below(6)];
        for (int i = 0; i < pdu.length; i++) {
            pdu[i] = below(256);
        }
        return pdu;
    }

    private int[] order(int s) {
        int n = below(14);
        int kind = new int[] {0, 64, 128, 192}[below(4)];
        int[] pdu = new int[Math.min(16, Math.max(2, kind == 0 ? 4 : 4 + n) + (once(8) ? 1 : 0))];
        for (int i = 0; i < pdu.length; i++) {
            pdu[i] = below(256);
        }
        pdu[0] = 64 + 4 * s + (once(6) ? below(4) : 2);
        pdu[1] = kind + n;
        if (pdu.length > 3) {
            pdu[2] = once(8) ? 1 : 0;
            pdu[3] = below(70);
        }
        return pdu;
    }

    /** A telegram that a device may well have to do something with. */
    private int[] likely() {
        int control = 144 + 4 * below(4) + (once(3) ? 0 : 32);
        int hops = once(3) ? 16 * below(8) : 96;
        if (once(3)) {
            int[] pdu = pdu();
            pdu[0] = once(8) ? pdu[0] : 0;
            return Wire.telegram(control, address(), once(8) ? 0 : 1 + below(4), 128 + hops, pdu);
        }
        int d = below(Math.max(1, m.count(2)));
        int partner = m.connection(d, 1);
        int source = partner >= 0 && !once(6) ? partner : address();
        int goal = Math.max(0, m.connection(d, 8));
        int s = once(5) ? below(16) : Math.max(0, m.connection(d, 3)) - (once(6) ? 1 : 0) & 15;
        int awaited = once(5) ? below(16) : Math.max(0, m.connection(d, 2));
        return switch (below(6)) {
            case 0 -> Wire.telegram(control, source, goal, hops, 128);
            case 1 -> Wire.telegram(control, source, goal, hops, once(4) ? 129 : below(256));
            case 2 -> Wire.telegram(control, source, goal, hops, 194 + 4 * awaited);
            case 3 -> Wire.telegram(control, source, goal, hops, 195 + 4 * awaited);
            default -> Wire.telegram(control, source, goal, hops, order(s));
        };
    }

    private void rawCall() {
        if (once(3) || tape.length == 0) {
            tape = likely();
        } else if (once(3)) {
            // The same one again, as a REPEATED one.
            tape = tape.clone();
            tape[0] ^= 32;
            tape[tape.length - 1] ^= 32;
        }
        int[] bytes = tape.clone();
        if (once(8)) {
            bytes[below(bytes.length)] ^= 1 << below(8);
        }
        if (once(10)) {
            bytes = java.util.Arrays.copyOf(bytes, 1 + below(24));
        }
        same("end 0", x.end(0), m.end(0));
        for (int from = 0; from < bytes.length; from += 20) {
            int[] words = new int[5];
            for (int i = 0; i < 20; i++) {
                int next = from + i < bytes.length ? bytes[from + i] : 0;
                words[i / 4] = words[i / 4] << 8 | next;
            }
            same("feed", x.feed(words[0], words[1], words[2], words[3], words[4]),
                    m.feed(words[0], words[1], words[2], words[3], words[4]));
        }
        int length = once(30) ? near(61) : bytes.length;
        same("end", x.end(length), m.end(length));
        int line = near(m.count(1));
        same("raw", x.raw(line), m.raw(line));
    }

    private void harmCall() {
        int n = once(30) ? 498 + below(5) : near(once(4) ? 40 : 3);
        int place = near(once(3) ? 23 : 10);
        int turn = once(10) ? near(256) : 1 << below(8);
        same("harm", x.harm(n, place, turn), m.harm(n, place, turn));
        if (once(2)) {
            // The same bit of CHECK, so that the telegram may be good all the same.
            int check = once(2) ? 7 : 8 + below(3);
            same("harm", x.harm(n, check, turn), m.harm(n, check, turn));
        }
    }

    private void networkCall() {
        switch (below(7)) {
            case 0 -> {
                int number = near(256);
                same("line", x.line(number), m.line(number));
            }
            case 1, 2 -> {
                int home = near(m.count(1));
                int last = once(4) ? near(257) : 1 + below(6);
                same("device", x.device(home, last), m.device(home, last));
            }
            case 3 -> {
                int a = near(m.count(1));
                int b = near(m.count(1));
                same("coupler", x.coupler(a, b), m.coupler(a, b));
            }
            case 4 -> {
                int c = near(m.count(3));
                int mode = near(3);
                same("mode", x.mode(c, mode), m.mode(c, mode));
            }
            case 5 -> {
                int c = near(m.count(3));
                int group = group();
                boolean passes = !once(3);
                same("filter", x.filter(c, group, passes), m.filter(c, group, passes));
            }
            default -> {
                addObject();
                addLink();
            }
        }
    }

    private void look() {
        int d = anyDevice();
        int o = near(Math.max(1, m.connection(d, 10)));
        switch (below(10)) {
            case 0, 1 -> {
                int what = near(14);
                same("count " + what, x.count(what), m.count(what));
            }
            case 2, 3, 4 -> {
                int what = near(12);
                same("connection " + what, x.connection(d, what), m.connection(d, what));
            }
            case 5 -> same("value", x.value(d, o), m.value(d, o));
            case 6 -> same("updated", x.updated(d, o), m.updated(d, o));
            case 7 -> {
                int k = near(65) - 1;
                same("memory " + k, x.memory(d, k), m.memory(d, k));
                same("hundredths", x.hundredths(d, o), m.hundredths(d, o));
            }
            case 8 -> {
                int k = near(13) - 1;
                same("reply " + k, x.reply(d, k), m.reply(d, k));
            }
            default -> {
                int k = near(once(3) ? 24 : 10) - 1;
                same("sent " + k, Check.sentOrThrows(x, k), modelSent(k));
            }
        }
    }

    private int modelSent(int k) {
        try {
            return m.sent(k);
        } catch (NoSuchElementException e) {
            return Check.THROWS;
        }
    }
}

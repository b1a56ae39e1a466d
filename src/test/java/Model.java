import java.util.ArrayList;
import java.util.HashMap;
import java.util.LinkedHashSet;
import java.util.List;
import java.util.Map;
import java.util.NoSuchElementException;
import java.util.Set;

/** A second writing of the document, as near to its words as can be, to hold the class against. */
final class Model {
    private static final int[] BITS = {1, 2, 4, 6, 8, 16, 24, 32};

    private static final class Sending {
        int[] bytes;
        int stamp;
        int times;
        int connect;
    }

    private static final class Station {
        int line;
        int deviceNumber = -1;
        int couplerNumber = -1;
        List<Sending> out = new ArrayList<>();
        int[] latest;
    }

    private static final class Thing {
        int bits;
        int flags;
        int priority;
        long value;
        int updated;
    }

    private static final class Dev {
        Station station;
        int address;
        List<Thing> things = new ArrayList<>();
        List<int[]> links = new ArrayList<>();
        int[] memory = new int[64];
        List<Integer> answer = new ArrayList<>();
        int how;
        int partner;
        int sent;
        int got;
        int tries;
        int pause;
        int idle;
        int connects;
        int busy;
        int[] kept;
    }

    private static final class Coupler {
        Station[] sides = {new Station(), new Station()};
        int mode;
        Set<Integer> filter = new LinkedHashSet<>();
    }

    private final List<Integer> lines = new ArrayList<>();
    private final List<Station> testers = new ArrayList<>();
    private final List<Dev> devices = new ArrayList<>();
    private final List<Coupler> couplers = new ArrayList<>();
    private final List<Integer> tape = new ArrayList<>();
    private final Map<Integer, Map<Integer, Integer>> harms = new HashMap<>();
    private int clock;
    private int sent;
    private int done;
    private int lost;
    private int dropped;
    private int passed;
    private int latestAnswer;
    private int latestLine = -1;
    private int[] latest;

    // The network.

    int line(int number) {
        if (lines.size() == 6 || number < 0 || number > 255 || lines.contains(number)) {
            return -1;
        }
        lines.add(number);
        Station tester = new Station();
        tester.line = lines.size() - 1;
        testers.add(tester);
        return lines.size() - 1;
    }

    int device(int line, int last) {
        if (devices.size() == 24 || line < 0 || line >= lines.size() || last < 1 || last > 255) {
            return -1;
        }
        Dev made = new Dev();
        made.address = 256 * lines.get(line) + last;
        for (Dev other : devices) {
            if (other.address == made.address) {
                return -1;
            }
        }
        made.station = new Station();
        made.station.line = line;
        made.station.deviceNumber = devices.size();
        devices.add(made);
        return devices.size() - 1;
    }

    private boolean joined(int a, int b, Coupler without) {
        List<Integer> reached = new ArrayList<>();
        reached.add(a);
        for (int i = 0; i < reached.size(); i++) {
            for (Coupler c : couplers) {
                for (int side = 0; side < 2; side++) {
                    int far = c.sides[1 - side].line;
                    if (c != without && c.sides[side].line == reached.get(i)
                            && !reached.contains(far)) {
                        reached.add(far);
                    }
                }
            }
        }
        return reached.contains(b);
    }

    int coupler(int a, int b) {
        int n = lines.size();
        if (couplers.size() == 5 || a < 0 || b < 0 || a >= n || b >= n || joined(a, b, null)) {
            return -1;
        }
        Coupler made = new Coupler();
        made.sides[0].line = a;
        made.sides[1].line = b;
        made.sides[0].couplerNumber = couplers.size();
        made.sides[1].couplerNumber = couplers.size();
        couplers.add(made);
        return couplers.size() - 1;
    }

    boolean mode(int c, int m) {
        if (c < 0 || c >= couplers.size() || m < 0 || m > 2) {
            return false;
        }
        couplers.get(c).mode = m;
        return true;
    }

    boolean filter(int c, int group, boolean passes) {
        if (c < 0 || c >= couplers.size() || group < 1 || group > 65535) {
            return false;
        }
        Set<Integer> filter = couplers.get(c).filter;
        if (filter.size() == 64 && !filter.contains(group)) {
            return false;
        }
        if (passes) {
            filter.add(group);
        } else {
            filter.remove(group);
        }
        return true;
    }

    // Objects.

    private Dev dev(int d) {
        return d < 0 || d >= devices.size() ? null : devices.get(d);
    }

    private Thing thing(int d, int o) {
        Dev dev = dev(d);
        return dev == null || o < 0 || o >= dev.things.size() ? null : dev.things.get(o);
    }

    int object(int d, int size, int flags, int priority) {
        Dev dev = dev(d);
        if (dev == null || dev.things.size() == 12 || size < 0 || size > 7 || flags < 0
                || flags > 31 || priority < 0 || priority > 3) {
            return -1;
        }
        Thing made = new Thing();
        made.bits = BITS[size];
        made.flags = flags;
        made.priority = priority;
        dev.things.add(made);
        return dev.things.size() - 1;
    }

    boolean flags(int d, int o, int flags) {
        Thing thing = thing(d, o);
        if (thing == null || flags < 0 || flags > 31) {
            return false;
        }
        thing.flags = flags;
        return true;
    }

    boolean link(int d, int o, int group) {
        if (thing(d, o) == null || group < 1 || group > 65535 || dev(d).links.size() == 24) {
            return false;
        }
        for (int[] link : dev(d).links) {
            if (link[0] == o && link[1] == group) {
                return false;
            }
        }
        dev(d).links.add(new int[] {o, group});
        return true;
    }

    private int own(int d, int o) {
        for (int[] link : dev(d).links) {
            if (link[0] == o) {
                return link[1];
            }
        }
        return -1;
    }

    private static boolean has(Thing thing, String letters) {
        for (char letter : letters.toCharArray()) {
            if ((thing.flags >> "CRWTU".indexOf(letter) & 1) == 0) {
                return false;
            }
        }
        return true;
    }

    int set(int d, int o, int v) {
        Thing thing = thing(d, o);
        if (thing == null) {
            return -1;
        }
        Dev dev = dev(d);
        boolean sends = has(thing, "CT") && own(d, o) > 0;
        if (sends && dev.station.out.size() == 8) {
            return -2;
        }
        thing.value = (v & 0xFFFFFFFFL) % (1L << thing.bits);
        if (sends) {
            groupTelegram(dev, thing, 2, own(d, o));
        }
        return dev.station.out.size();
    }

    int ask(int d, int o) {
        Thing thing = thing(d, o);
        if (thing == null || !has(thing, "CT") || own(d, o) < 0) {
            return -1;
        }
        Dev dev = dev(d);
        if (dev.station.out.size() == 8) {
            return -2;
        }
        groupTelegram(dev, thing, 0, own(d, o));
        return dev.station.out.size();
    }

    long value(int d, int o) {
        return thing(d, o) == null ? -1 : thing(d, o).value;
    }

    int updated(int d, int o) {
        return thing(d, o) == null ? -1 : thing(d, o).updated;
    }

    long hundredths(int d, int o) {
        Thing thing = thing(d, o);
        if (thing == null || thing.bits != 16) {
            return Long.MIN_VALUE;
        }
        long s = thing.value / 32768;
        long e = thing.value / 2048 % 16;
        long m = thing.value % 2048;
        long result = m - 2048 * s;
        for (int i = 0; i < e; i++) {
            result *= 2;
        }
        return result;
    }

    int point(int d, int o, int v) {
        Thing thing = thing(d, o);
        if (thing == null || thing.bits != 16) {
            return -1;
        }
        for (int e = 0; e < 16; e++) {
            int cut = Math.floorDiv(v, 1 << e);
            if (cut >= -2048 && cut <= 2047) {
                int s = cut < 0 ? 1 : 0;
                return set(d, o, 32768 * s + 2048 * e + cut + 2048 * s);
            }
        }
        return -1;
    }

    private void groupTelegram(Dev dev, Thing thing, int act, int group) {
        List<Integer> pdu = new ArrayList<>();
        pdu.add(0);
        if (act == 0) {
            pdu.add(0);
        } else if (thing.bits <= 6) {
            pdu.add(64 * act + (int) thing.value);
        } else {
            pdu.add(64 * act);
            for (int i = thing.bits / 8 - 1; i >= 0; i--) {
                pdu.add((int) (thing.value >> 8 * i) & 255);
            }
        }
        enter(dev.station, make(thing.priority, dev.address, true, group, pdu), 0);
    }

    private static int[] make(int priority, int source, boolean group, int goal, List<Integer> pdu) {
        int[] bytes = new int[7 + pdu.size()];
        bytes[0] = 144 + 32 + 4 * priority;
        bytes[1] = source / 256;
        bytes[2] = source % 256;
        bytes[3] = goal / 256;
        bytes[4] = goal % 256;
        bytes[5] = (group ? 128 : 0) + 6 * 16 + pdu.size() - 1;
        for (int i = 0; i < pdu.size(); i++) {
            bytes[6 + i] = pdu.get(i);
        }
        bytes[bytes.length - 1] = check(bytes);
        return bytes;
    }

    private static int check(int[] bytes) {
        int xor = 0;
        for (int i = 0; i < bytes.length - 1; i++) {
            xor ^= bytes[i];
        }
        return 255 - xor;
    }

    private boolean enter(Station station, int[] bytes, int connect) {
        if (station.out.size() == 8) {
            dropped++;
            return false;
        }
        Sending made = new Sending();
        made.bytes = bytes.clone();
        made.stamp = clock;
        made.connect = connect;
        station.out.add(made);
        return true;
    }

    // Connections.

    private void control(Dev dev, int pdu, int goal, int connect) {
        enter(dev.station, make(0, dev.address, false, goal, List.of(pdu)), connect);
    }

    private void closes(Dev dev) {
        control(dev, 129, dev.partner, 0);
        dev.how = 0;
    }

    boolean connect(int d, int address) {
        Dev dev = dev(d);
        if (dev == null || dev.how != 0 || dev.station.out.size() == 8 || address < 0
                || address > 65535) {
            return false;
        }
        dev.how = 3;
        dev.partner = address;
        dev.sent = 0;
        dev.got = 0;
        dev.connects++;
        control(dev, 128, address, dev.connects);
        return true;
    }

    boolean disconnect(int d) {
        Dev dev = dev(d);
        if (dev == null || dev.how == 0) {
            return false;
        }
        closes(dev);
        return true;
    }

    private void data(Dev dev, int second, int place, List<Integer> rest) {
        List<Integer> pdu = new ArrayList<>(List.of(66 + 4 * dev.sent, second, place / 256,
                place % 256));
        pdu.addAll(rest);
        dev.kept = make(0, dev.address, false, dev.partner, pdu);
        dev.how = 2;
        dev.tries = 0;
        dev.pause = 0;
        dev.idle = 0;
        enter(dev.station, dev.kept, 0);
    }

    boolean peek(int d, int at, int n) {
        Dev dev = dev(d);
        if (dev == null || dev.how != 1 || dev.station.out.size() == 8 || at < 0 || at > 65535
                || n < 1 || n > 12) {
            return false;
        }
        data(dev, n, at, List.of());
        return true;
    }

    boolean poke(int d, int at, int n, int v) {
        Dev dev = dev(d);
        if (dev == null || dev.how != 1 || dev.station.out.size() == 8 || at < 0 || at > 65535
                || n < 1 || n > 4) {
            return false;
        }
        List<Integer> rest = new ArrayList<>();
        for (int i = n - 1; i >= 0; i--) {
            rest.add(v >> 8 * i & 255);
        }
        data(dev, 128 + n, at, rest);
        return true;
    }

    int memory(int d, int k) {
        return dev(d) == null || k < 0 || k > 63 ? -1 : dev(d).memory[k];
    }

    boolean store(int d, int k, int v) {
        if (dev(d) == null || k < 0 || k > 63) {
            return false;
        }
        dev(d).memory[k] = Math.floorMod(v, 256);
        return true;
    }

    int reply(int d, int k) {
        if (dev(d) == null) {
            return -1;
        }
        List<Integer> answer = dev(d).answer;
        if (k == -1) {
            return answer.size();
        }
        return k < 0 || k >= answer.size() ? -1 : answer.get(k);
    }

    int connection(int d, int what) {
        Dev dev = dev(d);
        if (dev == null || what < 0 || what > 11) {
            return -1;
        }
        boolean waits = dev.how == 2;
        int[] answers = {dev.how, dev.how == 0 ? -1 : dev.partner, dev.how == 0 ? 0 : dev.sent,
            dev.how == 0 ? 0 : dev.got, waits ? dev.tries : 0, waits ? dev.pause : 0,
            waits || dev.how == 1 ? dev.idle : 0, dev.station.out.size(), dev.address, dev.busy,
            dev.things.size(), dev.links.size()};
        return answers[what];
    }

    boolean busy(int d, int n) {
        if (dev(d) == null || n < 0 || n > 20) {
            return false;
        }
        dev(d).busy = n;
        return true;
    }

    // The tester and harms.

    int feed(int a, int b, int c, int d, int e) {
        if (tape.size() + 20 > 60) {
            return -1;
        }
        for (int number : new int[] {a, b, c, d, e}) {
            for (int i = 3; i >= 0; i--) {
                tape.add(number >>> 8 * i & 255);
            }
        }
        return tape.size();
    }

    int end(int n) {
        if (n < 0 || tape.size() < n) {
            return -1;
        }
        tape.subList(n, tape.size()).clear();
        return n;
    }

    int raw(int line) {
        if (line < 0 || line >= lines.size() || tape.size() < 8 || tape.size() > 23) {
            return -1;
        }
        Station tester = testers.get(line);
        if (tester.out.size() == 8) {
            return -2;
        }
        int[] bytes = new int[tape.size()];
        for (int i = 0; i < bytes.length; i++) {
            bytes[i] = tape.get(i);
        }
        tape.clear();
        enter(tester, bytes, 0);
        return tester.out.size();
    }

    private int harmCount() {
        int told = 0;
        for (Map<Integer, Integer> of : harms.values()) {
            told += of.size();
        }
        return told;
    }

    boolean harm(int n, int place, int x) {
        if (n < 0 || n > 500 || place < 0 || place > 22 || x < 1 || x > 255) {
            return false;
        }
        Map<Integer, Integer> of = harms.getOrDefault(sent + n, new HashMap<>());
        if (!of.containsKey(place) && harmCount() == 64) {
            return false;
        }
        of.put(place, x);
        harms.put(sent + n, of);
        return true;
    }

    // Steps.

    int step(int n) {
        if (n < 1 || n > 200) {
            throw new IllegalArgumentException();
        }
        int before = sent;
        for (int i = 0; i < n; i++) {
            clock++;
            for (int l = 0; l < lines.size(); l++) {
                stepLine(l);
            }
            for (Dev dev : devices) {
                times(dev);
            }
        }
        return sent - before;
    }

    private List<Station> stations(int l) {
        List<Station> all = new ArrayList<>();
        for (Dev dev : devices) {
            if (dev.station.line == l) {
                all.add(dev.station);
            }
        }
        for (Coupler c : couplers) {
            for (Station side : c.sides) {
                if (side.line == l) {
                    all.add(side);
                }
            }
        }
        all.add(testers.get(l));
        return all;
    }

    private static boolean pressing(int control) {
        int priority = control / 4 % 4;
        return priority == 0 || priority == 2 || control / 32 % 2 == 0;
    }

    private static int bit(Station station, int place) {
        int[] bytes = station.out.get(0).bytes;
        return place / 8 >= bytes.length ? 1 : bytes[place / 8] >> place % 8 & 1;
    }

    private Station winner(int l) {
        List<Station> on = stations(l);
        on.removeIf(s -> s.out.isEmpty() || s.out.get(0).stamp >= clock);
        if (on.stream().anyMatch(s -> pressing(s.out.get(0).bytes[0]))) {
            on.removeIf(s -> !pressing(s.out.get(0).bytes[0]));
        }
        for (int place = 0; place < 23 * 8; place++) {
            int here = place;
            if (on.stream().anyMatch(s -> bit(s, here) == 0)) {
                on.removeIf(s -> bit(s, here) == 1);
            }
        }
        return on.isEmpty() ? null : on.get(0);
    }

    private void stepLine(int l) {
        Station sender = winner(l);
        if (sender == null) {
            return;
        }
        Sending sending = sender.out.get(0);
        latest = sending.bytes.clone();
        latestLine = l;
        int[] heard = sending.bytes.clone();
        Map<Integer, Integer> turned = harms.remove(sent);
        if (turned != null) {
            turned.forEach((place, x) -> {
                if (place < heard.length) {
                    heard[place] ^= x;
                }
            });
        }
        sent++;
        sending.times++;
        boolean good = heard.length == 7 + heard[5] % 16 + 1
                && heard[heard.length - 1] == check(heard);
        boolean[] answers = new boolean[4];
        for (Station station : stations(l)) {
            if (station != sender && station != testers.get(l)) {
                answers[good ? hear(station, heard) : 2] = true;
            }
        }
        latestAnswer = answers[3] ? 3 : answers[2] ? 2 : answers[1] ? 1 : 0;
        settle(sender, sending);
    }

    private void settle(Station sender, Sending sending) {
        boolean isDone = latestAnswer == 1;
        if (!isDone && sending.times < 4) {
            if ((sending.bytes[0] & 32) != 0) {
                sending.bytes[0] -= 32;
                sending.bytes[sending.bytes.length - 1] ^= 32;
            }
            return;
        }
        sender.out.remove(0);
        if (isDone) {
            done++;
        } else {
            lost++;
        }
        if (sending.connect > 0) {
            Dev dev = devices.get(sender.deviceNumber);
            if (dev.how == 3 && dev.connects == sending.connect) {
                dev.how = isDone ? 1 : 0;
                dev.idle = 0;
            }
        }
    }

    private static boolean alike(int[] a, int[] b) {
        if (b == null || a.length != b.length || (a[0] | 32) != (b[0] | 32)) {
            return false;
        }
        for (int i = 1; i < a.length - 1; i++) {
            if (a[i] != b[i]) {
                return false;
            }
        }
        return true;
    }

    private int hear(Station station, int[] heard) {
        boolean isGroup = heard[5] >= 128;
        int goal = 256 * heard[3] + heard[4];
        Station into = station;
        if (station.deviceNumber >= 0) {
            Dev dev = devices.get(station.deviceNumber);
            boolean linked = dev.links.stream().anyMatch(link -> link[1] == goal);
            if (isGroup ? !linked : goal != dev.address) {
                return 0;
            }
            if (dev.busy > 0) {
                dev.busy--;
                return 3;
            }
        } else {
            Coupler coupler = couplers.get(station.couplerNumber);
            into = coupler.sides[coupler.sides[0] == station ? 1 : 0];
            if (heard[5] / 16 % 8 == 0 || !passes(coupler, into.line, isGroup, goal)) {
                return 0;
            }
        }
        if (into.out.size() == 8) {
            return 3;
        }
        boolean repeated = (heard[0] & 32) == 0;
        if (repeated && alike(heard, station.latest)) {
            return 1;
        }
        station.latest = heard.clone();
        if (into != station) {
            pass(into, heard);
        } else if (isGroup) {
            doGroup(devices.get(station.deviceNumber), heard, goal);
        } else {
            doConnection(devices.get(station.deviceNumber), heard);
        }
        return 1;
    }

    private boolean passes(Coupler coupler, int far, boolean isGroup, int goal) {
        if (isGroup) {
            return coupler.mode == 1
                    || coupler.mode == 0 && (goal == 0 || coupler.filter.contains(goal));
        }
        int target = lines.indexOf(goal / 256);
        return target >= 0 && joined(far, target, coupler);
    }

    private void pass(Station into, int[] heard) {
        int[] on = heard.clone();
        if ((on[0] & 32) == 0) {
            on[0] += 32;
        }
        if (on[5] / 16 % 8 != 7) {
            on[5] -= 16;
        }
        on[on.length - 1] = check(on);
        passed++;
        enter(into, on, 0);
    }

    private void doGroup(Dev dev, int[] heard, int goal) {
        int pdu = heard.length - 7;
        if (pdu < 2 || heard[6] != 0) {
            return;
        }
        int act = heard[7] / 64;
        for (int[] link : dev.links) {
            Thing thing = dev.things.get(link[0]);
            int size = thing.bits <= 6 ? 2 : 2 + thing.bits / 8;
            if (link[1] != goal) {
                continue;
            }
            if (act == 0 && pdu == 2 && has(thing, "CR")) {
                groupTelegram(dev, thing, 1, goal);
            }
            if ((act == 1 && has(thing, "CU") || act == 2 && has(thing, "CW")) && pdu == size) {
                long came = heard[7];
                for (int i = 8; i < heard.length - 1; i++) {
                    came = 256 * came + heard[i];
                }
                thing.value = came % (1L << thing.bits);
                thing.updated++;
            }
        }
    }

    private void doConnection(Dev dev, int[] heard) {
        int x = 256 * heard[1] + heard[2];
        int first = heard[6];
        int pdu = heard.length - 7;
        boolean partner = dev.how != 0 && dev.partner == x;
        int s = first % 64 / 4;
        if (pdu >= 2 && first >= 64 && first < 128) {
            doData(dev, heard, x, s);
        } else if (pdu == 1 && first == 128) {
            if (dev.how == 0) {
                dev.how = 1;
                dev.partner = x;
                dev.sent = 0;
                dev.got = 0;
                dev.idle = 0;
            } else if (!partner) {
                control(dev, 129, x, 0);
            }
        } else if (pdu == 1 && first == 129 && partner) {
            dev.how = 0;
        } else if (pdu == 1 && first >= 194 && first % 4 >= 2 && partner && dev.how != 3) {
            if (dev.how != 2 || s != dev.sent) {
                closes(dev);
            } else if (first % 4 == 2) {
                dev.how = 1;
                dev.sent = (dev.sent + 1) % 16;
                dev.idle = 0;
            } else {
                again(dev);
            }
        }
    }

    private void again(Dev dev) {
        if (dev.tries == 3) {
            closes(dev);
        } else {
            dev.tries++;
            dev.pause = 0;
            enter(dev.station, dev.kept, 0);
        }
    }

    private void doData(Dev dev, int[] heard, int x, int s) {
        if (dev.how == 0 || dev.how == 3 || dev.partner != x) {
            control(dev, 129, x, 0);
            return;
        }
        dev.idle = 0;
        if (s == (dev.got + 15) % 16) {
            control(dev, 194 + 4 * s, x, 0);
        } else if (s != dev.got) {
            control(dev, 195 + 4 * s, x, 0);
        } else {
            control(dev, 194 + 4 * s, x, 0);
            dev.got = (dev.got + 1) % 16;
            if (heard[6] % 4 == 2) {
                doOrder(dev, heard);
            }
        }
    }

    private void doOrder(Dev dev, int[] heard) {
        int pdu = heard.length - 7;
        if (pdu < 4) {
            return;
        }
        int second = heard[7];
        int place = 256 * heard[8] + heard[9];
        if (second >= 1 && second <= 12 && pdu == 4 && dev.how == 1) {
            List<Integer> rest = new ArrayList<>();
            for (int i = place; place + second <= 64 && i < place + second; i++) {
                rest.add(dev.memory[i]);
            }
            data(dev, 64 + rest.size(), place, rest);
        }
        if (second >= 129 && second <= 140 && pdu == 4 + second - 128
                && place + second - 128 <= 64) {
            for (int i = 0; i < second - 128; i++) {
                dev.memory[place + i] = heard[10 + i];
            }
        }
        if (second >= 64 && second <= 76 && pdu == 4 + second - 64) {
            dev.answer.clear();
            for (int i = 0; i < second - 64; i++) {
                dev.answer.add(heard[10 + i]);
            }
        }
    }

    private void times(Dev dev) {
        if (dev.how == 2) {
            dev.pause++;
            if (dev.pause == 30) {
                again(dev);
            }
        }
        if (dev.how == 1 || dev.how == 2) {
            dev.idle++;
            if (dev.idle == 60) {
                closes(dev);
            }
        }
    }

    int sent(int k) {
        if (latest == null || k < -1 || k >= latest.length) {
            throw new NoSuchElementException();
        }
        return k == -1 ? latest.length : latest[k];
    }

    int count(int what) {
        int waiting = 0;
        for (int l = 0; l < lines.size(); l++) {
            for (Station station : stations(l)) {
                waiting += station.out.size();
            }
        }
        int[] answers = {clock, lines.size(), devices.size(), couplers.size(), sent, done, lost,
            dropped, passed, latestAnswer, latestLine, waiting, harmCount(), tape.size()};
        return what < 0 || what >= answers.length ? -1 : answers[what];
    }
}

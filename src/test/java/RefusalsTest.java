import java.lang.reflect.InvocationTargetException;
import java.lang.reflect.Method;
import java.lang.reflect.Modifier;
import java.util.ArrayList;
import java.util.Comparator;
import java.util.List;
import java.util.NoSuchElementException;
import java.util.Random;

/**
 * 'What is refused (NONE, false) changes nothing.' Each refused call is made on one of two objects
 * that were built alike; whatever is called then, both must answer alike. So it is with -2 and with
 * what throws.
 */
public final class RefusalsTest {
    private static final Check CHECK = new Check("RefusalsTest");
    private static final int NONE = -1;
    private static final int FULL = -2;
    private static final int FALSE = 0;
    private static final int LEAST = Integer.MIN_VALUE;
    private static final int MOST = Integer.MAX_VALUE;

    private interface House {
        HouseWires build();
    }

    private interface Call {
        long of(HouseWires x);
    }

    public static void main(String[] args) {
        CHECK.by("What is refused (NONE, false) changes nothing.");
        inANewHouse();
        networkCalls();
        objectCalls();
        sendingCalls();
        connectionCalls();
        memoryCalls();
        testerCalls();
        callsThatThrow();
        inAFullHouse();
        withFullRows();
        CHECK.by("A call of the face throws exactly what and where the document says");
        anyArguments();
        CHECK.end();
    }

    /** Two lines, a coupler, three devices with objects, of which 0 and 1 are connected. */
    private static HouseWires ordinary() {
        HouseWires x = new HouseWires();
        x.line(1);
        x.line(2);
        x.coupler(0, 1);
        x.filter(0, 5, true);
        x.device(0, 1);
        x.device(0, 2);
        x.device(1, 1);
        x.object(0, 4, 31, 1);
        x.object(0, 5, 31, 3);
        x.object(0, 3, 31, 2);
        x.object(1, 4, 31, 1);
        x.object(2, 4, 5, 1);
        x.link(0, 0, 5);
        x.link(0, 1, 6);
        x.link(1, 0, 5);
        x.link(2, 0, 5);
        x.connect(0, 258);
        x.step(1);
        x.store(1, 63, 99);
        x.peek(0, 63, 1);
        x.step(4);
        x.set(0, 0, 77);
        x.step(1);
        x.set(0, 0, 78);
        x.set(0, 1, 0x1234);
        x.busy(1, 1);
        x.harm(3, 8, 1);
        x.feed(0xBC636300, 0x05E20080, 0x2100FFFF, -1, -1);
        return x;
    }

    /** There are as many of all as there may be; device 0's row and line 0's tester have 8. */
    private static HouseWires full(int tape) {
        HouseWires x = new HouseWires();
        for (int l = 0; l < 6; l++) {
            x.line(l);
        }
        for (int c = 0; c < 5; c++) {
            x.coupler(c, c + 1);
        }
        for (int d = 0; d < 24; d++) {
            x.device(d % 6, 1 + d);
        }
        for (int i = 0; i < 64; i++) {
            x.filter(0, 1 + i, true);
            x.harm(20 + i, 8, 1);
        }
        for (int i = 0; i < 24; i++) {
            x.object(0, i % 2 == 0 ? 4 : 5, 31, 1);
            x.link(0, i % 12, 1 + i);
        }
        for (int i = 0; i < 8; i++) {
            x.set(0, 0, i);
            Wire.send(x, 0, Wire.toGroup(Wire.NEW_LOW, 99, 0, 128 + i));
        }
        for (int i = 0; i < tape; i += 20) {
            x.feed(0xBC636300, 0x05E20080, 0x2100FFFF, -1, -1);
        }
        return x;
    }

    private static HouseWires fullWithLongTape() {
        return full(60);
    }

    private static HouseWires fullWithShortTape() {
        return full(20);
    }

    private static void refused(String what, House house, long due, Call call) {
        HouseWires tried = house.build();
        HouseWires other = house.build();
        CHECK.due(what, call.of(tried), due);
        look(what, tried, other);
        goOn(what, tried, other);
        look(what + ", later", tried, other);
    }

    private static void look(String what, HouseWires x, HouseWires y) {
        for (int k = 0; k < 14; k++) {
            CHECK.due(what + ", then count " + k, x.count(k), y.count(k));
        }
        for (int d = 0; d < 3; d++) {
            String then = what + ", then of device " + d;
            for (int k = 0; k < 12; k++) {
                CHECK.due(then + ", connection " + k, x.connection(d, k), y.connection(d, k));
            }
            for (int o = 0; o < 2; o++) {
                CHECK.due(then + ", value", x.value(d, o), y.value(d, o));
                CHECK.due(then + ", updated", x.updated(d, o), y.updated(d, o));
            }
            CHECK.due(then + ", memory", x.memory(d, 0), y.memory(d, 0));
            CHECK.due(then + ", memory", x.memory(d, 63), y.memory(d, 63));
            CHECK.due(then + ", reply", x.reply(d, 0), y.reply(d, 0));
        }
    }

    /** What can't be looked at, such as FILTERS, FLAGS, LINKS and the TAPE, is told by what it does. */
    private static void goOn(String what, HouseWires x, HouseWires y) {
        x.end(11);
        y.end(11);
        CHECK.due(what + ", then raw", x.raw(0), y.raw(0));
        for (int i = 0; i < 5; i++) {
            CHECK.due(what + ", then step", x.step(1), y.step(1));
            for (int k = -1; k < 10; k++) {
                CHECK.due(what + ", then sent " + k, Check.sentOrThrows(x, k),
                        Check.sentOrThrows(y, k));
            }
        }
        CHECK.due(what + ", then ask", x.ask(0, 0), y.ask(0, 0));
        CHECK.due(what + ", then set", x.set(2, 0, 5), y.set(2, 0, 5));
        CHECK.due(what + ", then peek", x.peek(0, 62, 2) ? 1 : 0, y.peek(0, 62, 2) ? 1 : 0);
        CHECK.due(what + ", then steps", x.step(9), y.step(9));
    }

    private static void inANewHouse() {
        House house = HouseWires::new;
        refused("line", house, NONE, x -> x.line(256));
        refused("device", house, NONE, x -> x.device(0, 1));
        refused("coupler", house, NONE, x -> x.coupler(0, 1));
        refused("mode", house, FALSE, x -> x.mode(0, 1) ? 1 : 0);
        refused("filter", house, FALSE, x -> x.filter(0, 1, true) ? 1 : 0);
        refused("object", house, NONE, x -> x.object(0, 0, 0, 0));
        refused("set", house, NONE, x -> x.set(0, 0, 1));
        refused("connect", house, FALSE, x -> x.connect(0, 1) ? 1 : 0);
        refused("store", house, FALSE, x -> x.store(0, 0, 1) ? 1 : 0);
        refused("busy", house, FALSE, x -> x.busy(0, 1) ? 1 : 0);
        refused("end", house, NONE, x -> x.end(1));
        refused("raw", house, NONE, x -> x.raw(0));
        refused("harm", house, FALSE, x -> x.harm(0, 0, 0) ? 1 : 0);
    }

    private static void networkCalls() {
        House house = RefusalsTest::ordinary;
        for (int number : new int[] {-1, 256, 1, 2, LEAST, MOST}) {
            refused("line " + number, house, NONE, x -> x.line(number));
        }
        int[][] devices = {{-1, 9}, {2, 9}, {0, 0}, {0, 256}, {0, 1}, {0, 2}, {1, 1}, {MOST, 9}};
        for (int[] a : devices) {
            refused("device " + a[0] + ", " + a[1], house, NONE, x -> x.device(a[0], a[1]));
        }
        int[][] couplers = {{0, 0}, {1, 1}, {0, 1}, {1, 0}, {-1, 0}, {0, 2}, {2, 1}, {0, LEAST}};
        for (int[] a : couplers) {
            refused("coupler " + a[0] + ", " + a[1], house, NONE, x -> x.coupler(a[0], a[1]));
        }
        int[][] modes = {{-1, 1}, {1, 1}, {0, -1}, {0, 3}, {MOST, 2}, {0, MOST}};
        for (int[] a : modes) {
            refused("mode " + a[0] + ", " + a[1], house, FALSE, x -> x.mode(a[0], a[1]) ? 1 : 0);
        }
        int[][] filters = {{-1, 5}, {1, 5}, {0, 0}, {0, -1}, {0, 65536}, {0, LEAST}, {0, MOST}};
        for (int[] a : filters) {
            String what = "filter " + a[0] + ", " + a[1];
            refused(what, house, FALSE, x -> x.filter(a[0], a[1], true) ? 1 : 0);
            refused(what, house, FALSE, x -> x.filter(a[0], a[1], false) ? 1 : 0);
        }
    }

    private static void objectCalls() {
        House house = RefusalsTest::ordinary;
        int[][] objects = {{-1, 0, 0, 0}, {3, 0, 0, 0}, {0, -1, 0, 0}, {0, 8, 0, 0},
            {0, 0, -1, 0}, {0, 0, 32, 0}, {0, 0, 0, -1}, {0, 0, 0, 4}, {0, MOST, MOST, MOST}};
        for (int[] a : objects) {
            refused("object", house, NONE, x -> x.object(a[0], a[1], a[2], a[3]));
        }
        int[][] flags = {{-1, 0, 0}, {3, 0, 0}, {0, -1, 0}, {0, 3, 0}, {0, 0, -1}, {0, 0, 32}};
        for (int[] a : flags) {
            refused("flags", house, FALSE, x -> x.flags(a[0], a[1], a[2]) ? 1 : 0);
        }
        int[][] links = {{-1, 0, 9}, {3, 0, 9}, {0, -1, 9}, {0, 3, 9}, {0, 0, 0}, {0, 0, 65536},
            {0, 0, 5}, {0, 1, 6}, {0, 0, -1}};
        for (int[] a : links) {
            refused("link", house, FALSE, x -> x.link(a[0], a[1], a[2]) ? 1 : 0);
        }
    }

    private static void sendingCalls() {
        House house = RefusalsTest::ordinary;
        int[][] none = {{-1, 0}, {3, 0}, {0, -1}, {0, 3}, {LEAST, MOST}};
        for (int[] a : none) {
            String what = " of " + a[0] + ", " + a[1];
            refused("set" + what, house, NONE, x -> x.set(a[0], a[1], 9));
            refused("ask" + what, house, NONE, x -> x.ask(a[0], a[1]));
            refused("point" + what, house, NONE, x -> x.point(a[0], a[1], 9));
            refused("value" + what, house, NONE, x -> x.value(a[0], a[1]));
            refused("updated" + what, house, NONE, x -> x.updated(a[0], a[1]));
            refused("hundredths" + what, house, Long.MIN_VALUE, x -> x.hundredths(a[0], a[1]));
        }
        refused("ask without T", house, NONE, x -> x.ask(2, 0));
        refused("ask without OWN GROUP", house, NONE, x -> x.ask(0, 2));
        refused("point of 8 bits", house, NONE, x -> x.point(0, 0, 9));
        refused("point of too much", house, NONE, x -> x.point(0, 1, 67108864));
        refused("point of too little", house, NONE, x -> x.point(0, 1, -67108865));
    }

    private static void connectionCalls() {
        House house = RefusalsTest::ordinary;
        int[][] connects = {{0, 513}, {1, 513}, {-1, 513}, {3, 513}, {2, -1}, {2, 65536}};
        for (int[] a : connects) {
            refused("connect", house, FALSE, x -> x.connect(a[0], a[1]) ? 1 : 0);
        }
        for (int d : new int[] {2, 3, -1, LEAST, MOST}) {
            refused("disconnect", house, FALSE, x -> x.disconnect(d) ? 1 : 0);
        }
        int[][] orders = {{2, 0, 1}, {3, 0, 1}, {-1, 0, 1}, {0, -1, 1}, {0, 65536, 1}, {0, 0, 0},
            {0, 0, 13}, {0, 0, -1}};
        for (int[] a : orders) {
            refused("peek", house, FALSE, x -> x.peek(a[0], a[1], a[2]) ? 1 : 0);
            refused("poke", house, FALSE, x -> x.poke(a[0], a[1], a[2], 9) ? 1 : 0);
        }
        refused("poke of five", house, FALSE, x -> x.poke(0, 0, 5, 9) ? 1 : 0);
        for (int n : new int[] {-1, 21, LEAST, MOST}) {
            refused("busy", house, FALSE, x -> x.busy(1, n) ? 1 : 0);
        }
        refused("busy", house, FALSE, x -> x.busy(3, 1) ? 1 : 0);
    }

    private static void memoryCalls() {
        House house = RefusalsTest::ordinary;
        int[][] bytes = {{-1, 0}, {3, 0}, {0, -1}, {0, 64}, {MOST, LEAST}};
        for (int[] a : bytes) {
            refused("store", house, FALSE, x -> x.store(a[0], a[1], 9) ? 1 : 0);
            refused("memory", house, NONE, x -> x.memory(a[0], a[1]));
        }
        int[][] replies = {{-1, 0}, {3, -1}, {0, 1}, {0, -2}};
        for (int[] a : replies) {
            refused("reply", house, NONE, x -> x.reply(a[0], a[1]));
        }
        int[][] told = {{-1, 0}, {3, 0}, {0, -1}, {0, 12}};
        for (int[] a : told) {
            refused("connection", house, NONE, x -> x.connection(a[0], a[1]));
        }
    }

    private static void testerCalls() {
        House house = RefusalsTest::ordinary;
        for (int n : new int[] {-1, 21, LEAST, MOST}) {
            refused("end", house, NONE, x -> x.end(n));
        }
        for (int line : new int[] {-1, 2, LEAST, MOST}) {
            refused("raw", house, NONE, x -> x.raw(line));
        }
        int[][] harms = {{-1, 8, 1}, {501, 8, 1}, {0, -1, 1}, {0, 23, 1}, {0, 8, 0}, {0, 8, 256},
            {3, 8, 0}, {MOST, 8, 1}};
        for (int[] a : harms) {
            refused("harm", house, FALSE, x -> x.harm(a[0], a[1], a[2]) ? 1 : 0);
        }
        for (int what : new int[] {-1, 14, LEAST, MOST}) {
            refused("count", house, NONE, x -> x.count(what));
        }
    }

    private static void callsThatThrow() {
        House house = RefusalsTest::ordinary;
        for (int n : new int[] {0, -1, 201, LEAST, MOST}) {
            refused("step " + n, house, Check.THROWS, x -> Check.stepOrThrows(x, n));
        }
        for (int k : new int[] {-2, 10, 22, 23, LEAST, MOST}) {
            refused("sent " + k, house, Check.THROWS, x -> Check.sentOrThrows(x, k));
        }
        refused("sent of none", HouseWires::new, Check.THROWS, x -> Check.sentOrThrows(x, -1));
    }

    private static void inAFullHouse() {
        House house = RefusalsTest::fullWithLongTape;
        refused("a seventh line", house, NONE, x -> x.line(99));
        refused("a 25th device", house, NONE, x -> x.device(5, 99));
        refused("a sixth coupler", house, NONE, x -> x.coupler(0, 5));
        refused("a 65th group", house, FALSE, x -> x.filter(0, 65, true) ? 1 : 0);
        refused("a 65th group out", house, FALSE, x -> x.filter(0, 65, false) ? 1 : 0);
        refused("a 13th object", house, NONE, x -> x.object(0, 4, 31, 1));
        refused("a 25th link", house, FALSE, x -> x.link(0, 0, 99) ? 1 : 0);
        refused("a 65th harm", house, FALSE, x -> x.harm(0, 8, 1) ? 1 : 0);
        refused("80 bytes", house, NONE, x -> x.feed(0, 0, 0, 0, 0));
        refused("raw of 60 bytes", house, NONE, x -> x.raw(1));
    }

    private static void withFullRows() {
        House house = RefusalsTest::fullWithShortTape;
        refused("set with 8", house, FULL, x -> x.set(0, 0, 99));
        refused("ask with 8", house, FULL, x -> x.ask(0, 0));
        refused("point with 8", house, FULL, x -> x.point(0, 1, 99));
        refused("raw with 8", house, FULL, x -> x.raw(0));
        refused("connect with 8", house, FALSE, x -> x.connect(0, 513) ? 1 : 0);
    }

    private static void anyArguments() {
        List<Method> face = new ArrayList<>();
        for (Method method : HouseWires.class.getDeclaredMethods()) {
            if (Modifier.isPublic(method.getModifiers())) {
                face.add(method);
            }
        }
        // In one order, whatever the machine's own is.
        face.sort(Comparator.comparing(Method::getName));
        int[] numbers = {LEAST, -65536, -2, -1, 0, 0, 0, 1, 1, 2, 5, 8, 23, 64, 255, 256, 257,
            65535, 65536, MOST};
        Random random = new Random(1);
        House[] houses = {HouseWires::new, RefusalsTest::ordinary, RefusalsTest::fullWithShortTape};
        for (int i = 0; i < 600; i++) {
            HouseWires x = houses[i % houses.length].build();
            for (int calls = 0; calls < 150; calls++) {
                call(x, face.get(random.nextInt(face.size())), numbers, random);
            }
        }
    }

    private static void call(HouseWires x, Method method, int[] numbers, Random random) {
        Object[] args = new Object[method.getParameterCount()];
        for (int i = 0; i < args.length; i++) {
            boolean isNumber = method.getParameterTypes()[i] == int.class;
            int number = numbers[random.nextInt(numbers.length)];
            args[i] = isNumber ? (Object) number : (Object) (number % 2 == 0);
        }
        Class<?> thrown = null;
        try {
            method.invoke(x, args);
        } catch (InvocationTargetException e) {
            thrown = e.getCause().getClass();
        } catch (IllegalAccessException e) {
            thrown = e.getClass();
        }
        String name = method.getName();
        boolean isDue = thrown == null;
        if (name.equals("sent")) {
            isDue = isDue || thrown == NoSuchElementException.class;
        }
        if (name.equals("step")) {
            int n = (int) args[0];
            isDue = thrown == (n < 1 || n > 200 ? IllegalArgumentException.class : null);
        }
        CHECK.yes(name + " throws " + thrown, isDue);
    }
}

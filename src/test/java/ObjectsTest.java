/** Promises 7 to 15: group objects, what they send and what they take. */
public final class ObjectsTest {
    private static final Check CHECK = new Check("ObjectsTest");
    private static final int C = 1;
    private static final int R = 2;
    private static final int W = 4;
    private static final int T = 8;
    private static final int U = 16;

    public static void main(String[] args) {
        objects();
        flagsOfObjects();
        links();
        setting();
        settingWithoutSending();
        fullRow();
        sizesOnTheWire();
        asking();
        answersToAsk();
        takingByFlags();
        takingBySize();
        severalLinks();
        points();
        CHECK.end();
    }

    private static HouseWires house() {
        HouseWires x = new HouseWires();
        x.line(1);
        x.device(0, 1);
        x.device(0, 2);
        return x;
    }

    private static void objects() {
        HouseWires x = house();
        CHECK.due("7 no device", x.object(2, 0, 0, 0), -1);
        CHECK.due("7 no device", x.object(-1, 0, 0, 0), -1);
        CHECK.due("7 size below", x.object(0, -1, 0, 0), -1);
        CHECK.due("7 size above", x.object(0, 8, 0, 0), -1);
        CHECK.due("7 flags below", x.object(0, 0, -1, 0), -1);
        CHECK.due("7 flags above", x.object(0, 0, 32, 0), -1);
        CHECK.due("7 priority below", x.object(0, 0, 0, -1), -1);
        CHECK.due("7 priority above", x.object(0, 0, 0, 4), -1);
        CHECK.due("7 none made", x.connection(0, 10), 0);
        for (int o = 0; o < 12; o++) {
            CHECK.due("7 object", x.object(0, o % 8, 31, o % 4), o);
            CHECK.due("7 value at first", x.value(0, o), 0);
            CHECK.due("7 updated at first", x.updated(0, o), 0);
        }
        CHECK.due("7 a 13th", x.object(0, 0, 0, 0), -1);
        CHECK.due("7 twelve", x.connection(0, 10), 12);
        CHECK.due("7 of another one", x.object(1, 7, 0, 3), 0);
    }

    private static void flagsOfObjects() {
        HouseWires x = house();
        x.object(0, 4, C | T, 1);
        x.link(0, 0, 5);
        CHECK.no("8 no device", x.flags(2, 0, 0));
        CHECK.no("8 no object", x.flags(0, 1, 0));
        CHECK.no("8 no object", x.flags(0, -1, 0));
        CHECK.no("8 below", x.flags(0, 0, -1));
        CHECK.no("8 above", x.flags(0, 0, 32));
        CHECK.due("8 they are as before", x.set(0, 0, 1), 1);
        CHECK.yes("8 others", x.flags(0, 0, C | R | W | U));
        CHECK.due("8 without T", x.set(0, 0, 2), 1);
        CHECK.yes("8 others", x.flags(0, 0, R | W | T | U));
        CHECK.due("8 without C", x.set(0, 0, 3), 1);
        CHECK.yes("8 all", x.flags(0, 0, 31));
        CHECK.due("8 all", x.set(0, 0, 4), 2);
        CHECK.yes("8 none", x.flags(0, 0, 0));
        CHECK.due("8 none", x.set(0, 0, 5), 2);
    }

    private static void links() {
        HouseWires x = house();
        x.object(0, 0, 31, 1);
        x.object(0, 0, 31, 1);
        CHECK.no("9 no device", x.link(2, 0, 5));
        CHECK.no("9 no object", x.link(0, 2, 5));
        CHECK.no("9 no object", x.link(0, -1, 5));
        CHECK.no("9 no object", x.link(1, 0, 5));
        CHECK.no("9 below", x.link(0, 0, 0));
        CHECK.no("9 above", x.link(0, 0, 65536));
        CHECK.due("9 none made", x.connection(0, 11), 0);
        CHECK.yes("9 most", x.link(0, 0, 65535));
        CHECK.no("9 twice", x.link(0, 0, 65535));
        CHECK.yes("9 another object", x.link(0, 1, 65535));
        CHECK.yes("9 least", x.link(0, 0, 1));
        for (int i = 3; i < 24; i++) {
            CHECK.yes("9 link", x.link(0, 0, 10 + i));
        }
        CHECK.no("9 a 25th", x.link(0, 1, 5));
        CHECK.due("9 24", x.connection(0, 11), 24);
        x.set(0, 0, 1);
        x.step(1);
        CHECK.due("9 the first one is its own group", x.sent(3) * 256 + x.sent(4), 65535);
    }

    private static void setting() {
        HouseWires x = house();
        x.object(0, 0, C | T, 3);
        x.link(0, 0, 0x1234);
        CHECK.due("10 no device", x.set(2, 0, 1), -1);
        CHECK.due("10 no object", x.set(0, 1, 1), -1);
        CHECK.due("10 no object", x.set(0, -1, 1), -1);
        CHECK.due("12 no object", x.value(0, 1), -1);
        CHECK.due("12 no device", x.value(-1, 0), -1);
        CHECK.due("13 no object", x.updated(0, 1), -1);
        CHECK.due("13 no device", x.updated(2, 0), -1);
        CHECK.due("10 one", x.set(0, 0, 7), 1);
        CHECK.due("10 lowest bit", x.value(0, 0), 1);
        CHECK.due("10 two", x.set(0, 0, 6), 2);
        CHECK.due("10 lowest bit", x.value(0, 0), 0);
        CHECK.due("13 not by set", x.updated(0, 0), 0);
        CHECK.due("10 waits", x.count(11), 2);
        CHECK.due("10 sent", x.step(1), 1);
        CHECK.sent("10 as it was then", x,
                Wire.telegram(Wire.NEW_LOW, 257, 0x1234, 128 + 96, 0, 129));
    }

    private static void settingWithoutSending() {
        HouseWires x = house();
        x.object(0, 7, 31, 0);
        CHECK.due("10 no own group", x.set(0, 0, -1), 0);
        CHECK.due("12 not below 0", x.value(0, 0), 4294967295L);
        CHECK.due("10 nothing waits", x.count(11), 0);
        CHECK.due("10 least", x.set(0, 0, Integer.MIN_VALUE), 0);
        CHECK.due("12 highest bit", x.value(0, 0), 2147483648L);
    }

    private static void fullRow() {
        HouseWires x = house();
        x.object(0, 5, 31, 1);
        x.object(0, 4, 31 - T, 1);
        x.link(0, 0, 5);
        x.link(0, 1, 5);
        for (int i = 1; i <= 8; i++) {
            CHECK.due("10 in the row", x.set(0, 0, i), i);
        }
        CHECK.due("10 full", x.set(0, 0, 99), -2);
        CHECK.due("10 full: nothing is changed", x.value(0, 0), 8);
        CHECK.due("11 full", x.ask(0, 0), -2);
        CHECK.due("15 full", x.point(0, 0, 5), -2);
        CHECK.due("15 full: nothing is changed", x.value(0, 0), 8);
        CHECK.due("10 it would not send", x.set(0, 1, 7), 8);
        CHECK.due("10 it is set", x.value(0, 1), 7);
        CHECK.due("11 it would not send", x.ask(0, 1), -1);
        CHECK.due("7 not dropped", x.count(7), 0);
        CHECK.due("11 eight", x.count(11), 8);
    }

    private static void sizesOnTheWire() {
        int[] masks = {1, 3, 15, 63, 255, 65535, 0xFFFFFF, -1};
        int[] behind = {0, 0, 0, 0, 1, 2, 3, 4};
        for (int i = 0; i < 16; i++) {
            int size = i / 2;
            int v = i % 2 == 0 ? 0xDEADBEEF : -1;
            HouseWires x = house();
            x.object(0, size, C | T, size % 4);
            x.link(0, 0, 9);
            x.object(1, size, C | W, 0);
            x.link(1, 0, 9);
            x.set(0, 0, v);
            x.step(1);
            int value = v & masks[size];
            int[] pdu = new int[2 + behind[size]];
            pdu[1] = 128 + (behind[size] == 0 ? value : 0);
            for (int k = 0; k < behind[size]; k++) {
                pdu[2 + k] = value >> 8 * (behind[size] - 1 - k) & 255;
            }
            CHECK.sent("3 size " + size, x,
                    Wire.telegram(176 + 4 * (size % 4), 257, 9, 128 + 96, pdu));
            CHECK.due("12 set", x.value(0, 0), value & 0xFFFFFFFFL);
            CHECK.due("12 taken", x.value(1, 0), value & 0xFFFFFFFFL);
            CHECK.due("13 taken", x.updated(1, 0), 1);
        }
    }

    private static void asking() {
        HouseWires x = house();
        x.object(0, 5, C | T, 2);
        CHECK.due("11 no own group", x.ask(0, 0), -1);
        x.link(0, 0, 300);
        CHECK.due("11 no device", x.ask(2, 0), -1);
        CHECK.due("11 no object", x.ask(0, 1), -1);
        CHECK.due("11 no object", x.ask(0, -1), -1);
        x.flags(0, 0, T);
        CHECK.due("11 without C", x.ask(0, 0), -1);
        x.flags(0, 0, C);
        CHECK.due("11 without T", x.ask(0, 0), -1);
        CHECK.due("11 nothing waits", x.count(11), 0);
        x.flags(0, 0, C | T);
        x.link(0, 0, 301);
        x.set(0, 0, 65535);
        CHECK.due("11 two wait", x.ask(0, 0), 2);
        x.step(5);
        CHECK.sent("11 ASK", x, Wire.telegram(Wire.NEW_URGENT, 257, 300, 128 + 96, 0, 0));
    }

    private static void answersToAsk() {
        HouseWires x = house();
        x.object(0, 5, C | R, 2);
        x.set(0, 0, 0x1234);
        x.object(0, 2, C | R, 3);
        x.set(0, 1, 5);
        x.object(0, 0, R | W | T | U, 0);
        x.object(0, 0, C | W | T | U, 0);
        x.link(0, 1, 40);
        x.link(0, 3, 41);
        x.link(0, 2, 41);
        x.link(0, 0, 40);
        x.link(0, 1, 41);
        Wire.send(x, 0, Wire.toGroup(Wire.NEW_LOW, 40, 0, 63));
        x.step(1);
        CHECK.due("3 a TELL for each link", x.connection(0, 7), 2);
        x.step(1);
        CHECK.sent("3 the first link's", x,
                Wire.telegram(Wire.NEW_LOW, 257, 40, 128 + 96, 0, 64 + 5));
        x.step(8);
        CHECK.sent("3 the other link's, repeated", x,
                Wire.telegram(Wire.NEW_URGENT - 32, 257, 40, 128 + 96, 0, 64, 0x12, 0x34));
        Wire.send(x, 0, Wire.toGroup(Wire.NEW_LOW, 41, 0, 0));
        x.step(1);
        CHECK.due("3 those with C and R, to that group", x.connection(0, 7), 1);
        x.step(1);
        CHECK.due("3 to that group", x.sent(4), 41);
        x.step(3);
        Wire.send(x, 0, Wire.toGroup(Wire.NEW_LOW, 40, 0, 0, 0));
        x.step(1);
        CHECK.due("3 ASK has two bytes", x.connection(0, 7), 0);
        CHECK.due("3 taken all the same", x.count(9), 1);
        Wire.send(x, 0, Wire.toGroup(Wire.NEW_LOW, 40, 1, 0));
        x.step(1);
        CHECK.due("3 the first byte is 0", x.connection(0, 7), 0);
        Wire.send(x, 0, Wire.toGroup(Wire.NEW_LOW, 40, 0));
        x.step(1);
        CHECK.due("3 a second byte", x.connection(0, 7), 0);
        CHECK.due("3 taken all the same", x.count(9), 1);
        CHECK.due("13 ASK updates nothing", x.updated(0, 0), 0);
    }

    private static void takingByFlags() {
        for (int flags = 0; flags < 32; flags++) {
            HouseWires x = house();
            x.object(0, 1, flags, 0);
            x.link(0, 0, 7);
            Wire.send(x, 0, Wire.toGroup(Wire.NEW_LOW, 7, 0, 64 + 1));
            x.step(1);
            boolean isTold = (flags & (C | U)) == (C | U);
            CHECK.due("3 TELL, flags " + flags, x.value(0, 0), isTold ? 1 : 0);
            Wire.send(x, 0, Wire.toGroup(Wire.NEW_LOW, 7, 0, 128 + 62));
            x.step(1);
            boolean isWritten = (flags & (C | W)) == (C | W);
            CHECK.due("3 WRITE, flags " + flags, x.value(0, 0), isWritten ? 2 : isTold ? 1 : 0);
            CHECK.due("13 flags " + flags, x.updated(0, 0), (isTold ? 1 : 0) + (isWritten ? 1 : 0));
            Wire.send(x, 0, Wire.toGroup(Wire.NEW_LOW, 7, 0, 192 + 3));
            x.step(1);
            CHECK.due("3 ACT 3 does nothing", x.updated(0, 0),
                    (isTold ? 1 : 0) + (isWritten ? 1 : 0));
            CHECK.due("3 it is taken", x.count(9), 1);
        }
    }

    private static void takingBySize() {
        HouseWires x = house();
        for (int size = 0; size < 8; size++) {
            x.object(0, size, 31, 0);
            x.link(0, size, 7);
        }
        Wire.send(x, 0, Wire.toGroup(Wire.NEW_LOW, 7, 0, 128 + 63));
        Wire.send(x, 0, Wire.toGroup(Wire.NEW_LOW, 7, 0, 128 + 63, 0x81));
        Wire.send(x, 0, Wire.toGroup(Wire.NEW_LOW, 7, 0, 128 + 63, 0x82, 0x01));
        Wire.send(x, 0, Wire.toGroup(Wire.NEW_LOW, 7, 0, 128, 0x83, 0x02, 0x03));
        Wire.send(x, 0, Wire.toGroup(Wire.NEW_LOW, 7, 0, 64, 0x84, 0x03, 0x04, 0x05));
        Wire.send(x, 0, Wire.toGroup(Wire.NEW_LOW, 7, 0, 64, 0x85, 0x03, 0x04, 0x05, 6));
        x.step(6);
        long[] values = {1, 3, 15, 63, 0x81, 0x8201, 0x830203, 0x84030405L};
        for (int o = 0; o < 8; o++) {
            CHECK.due("3 value of " + o, x.value(0, o), values[o]);
            CHECK.due("3 once for " + o, x.updated(0, o), 1);
        }
        CHECK.due("3 all were taken", x.count(5), 6);
    }

    private static void severalLinks() {
        HouseWires x = house();
        for (int o = 0; o < 9; o++) {
            x.object(0, 0, 31, 1);
            x.link(0, o, 8);
        }
        x.link(0, 0, 9);
        Wire.send(x, 0, Wire.toGroup(Wire.NEW_LOW, 9, 0, 129));
        x.step(1);
        CHECK.due("3 any link", x.value(0, 0), 1);
        CHECK.due("3 that link alone", x.value(0, 1), 0);
        Wire.send(x, 0, Wire.toGroup(Wire.NEW_LOW, 8, 0, 0));
        x.step(1);
        CHECK.due("2 eight TELLS", x.connection(0, 7), 8);
        CHECK.due("2 the ninth is dropped", x.count(7), 1);
        CHECK.due("2 ACK all the same", x.count(9), 1);
    }

    private static void points() {
        HouseWires x = house();
        x.object(0, 5, 0, 0);
        x.object(0, 6, 0, 0);
        int[][] cases = {
            {0, 0, 0}, {2047, 2047, 2047}, {2048, 2048 + 1024, 2048}, {2049, 2048 + 1024, 2048},
            {-2048, 32768, -2048}, {-2049, 32768 + 2048 + 1023, -2050},
            {-4096, 32768 + 2048, -4096}, {-4097, 32768 + 4096 + 1023, -4100},
            {67076096, 30720 + 2047, 67076096}, {67108863, 30720 + 2047, 67076096},
            {-67108864, 32768 + 30720, -67108864}, {-1, 34815, -1}, {-3, 34813, -3}};
        for (int[] row : cases) {
            CHECK.due("15 of " + row[0], x.point(0, 0, row[0]), 0);
            CHECK.due("15 value of " + row[0], x.value(0, 0), row[1]);
            CHECK.due("14 of " + row[0], x.hundredths(0, 0), row[2]);
        }
        CHECK.due("15 too great", x.point(0, 0, 67108864), -1);
        CHECK.due("15 too small", x.point(0, 0, -67108865), -1);
        CHECK.due("15 nothing is changed", x.value(0, 0), 34813);
        CHECK.due("15 another size", x.point(0, 1, 5), -1);
        CHECK.due("15 no object", x.point(0, 2, 5), -1);
        CHECK.due("15 no device", x.point(-1, 0, 5), -1);
        CHECK.due("14 another size", x.hundredths(0, 1), Long.MIN_VALUE);
        CHECK.due("14 no object", x.hundredths(0, -1), Long.MIN_VALUE);
        CHECK.due("14 no device", x.hundredths(9, 0), Long.MIN_VALUE);
        x.flags(0, 0, C | T);
        x.link(0, 0, 77);
        CHECK.due("15 what set answers", x.point(0, 0, 100), 1);
    }
}

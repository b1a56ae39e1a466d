/** Promises 1 to 6: lines, devices, couplers, and what couplers pass. */
public final class NetworkTest {
    private static final Check CHECK = new Check("NetworkTest");

    public static void main(String[] args) {
        newObject();
        lines();
        devices();
        couplers();
        modes();
        filters();
        fullFilter();
        addressesOverCouplers();
        rowOfCouplers();
        fullLine();
        hops();
        stationsInOrder();
        CHECK.end();
    }

    private static void newObject() {
        HouseWires x = new HouseWires();
        for (int what = 0; what <= 13; what++) {
            CHECK.due("1 new, count " + what, x.count(what), what == 10 ? -1 : 0);
        }
        CHECK.due("1 new, connection", x.connection(0, 0), -1);
        CHECK.due("1 new, sent", Check.sentOrThrows(x, 0), Check.THROWS);
        CHECK.due("1 new, raw", x.raw(0), -1);
        CHECK.no("1 new, mode", x.mode(0, 0));
        CHECK.due("1 new, step", x.step(200), 0);
        CHECK.due("1 new, clock", x.count(0), 200);
    }

    private static void lines() {
        HouseWires x = new HouseWires();
        CHECK.due("2 below", x.line(-1), -1);
        CHECK.due("2 above", x.line(256), -1);
        CHECK.due("2 least", x.line(0), 0);
        CHECK.due("2 most", x.line(255), 1);
        CHECK.due("2 twice", x.line(0), -1);
        CHECK.due("2 twice", x.line(255), -1);
        CHECK.due("2 none more", x.count(1), 2);
        for (int l = 2; l < 6; l++) {
            CHECK.due("2 line", x.line(10 * l), l);
        }
        CHECK.due("2 a seventh", x.line(7), -1);
        CHECK.due("2 six", x.count(1), 6);
    }

    private static void devices() {
        HouseWires x = new HouseWires();
        CHECK.due("3 no line", x.device(0, 1), -1);
        x.line(255);
        x.line(2);
        CHECK.due("3 below", x.device(0, 0), -1);
        CHECK.due("3 above", x.device(0, 256), -1);
        CHECK.due("3 line below", x.device(-1, 1), -1);
        CHECK.due("3 line above", x.device(2, 1), -1);
        CHECK.due("3 most", x.device(0, 255), 0);
        CHECK.due("3 address", x.connection(0, 8), 65535);
        CHECK.due("3 same last", x.device(1, 255), 1);
        CHECK.due("3 address", x.connection(1, 8), 767);
        CHECK.due("3 twice", x.device(1, 255), -1);
        CHECK.due("3 twice", x.device(0, 255), -1);
        CHECK.due("3 two", x.count(2), 2);
        for (int d = 2; d < 24; d++) {
            CHECK.due("3 device", x.device(d % 2, d), d);
        }
        CHECK.due("3 a 25th", x.device(0, 77), -1);
        CHECK.due("3 24", x.count(2), 24);
        CHECK.due("3 address of the last one", x.connection(23, 8), 535);
    }

    private static void couplers() {
        HouseWires x = new HouseWires();
        CHECK.due("4 no lines", x.coupler(0, 1), -1);
        for (int l = 0; l < 6; l++) {
            x.line(l);
        }
        CHECK.due("4 one line", x.coupler(2, 2), -1);
        CHECK.due("4 below", x.coupler(-1, 0), -1);
        CHECK.due("4 above", x.coupler(0, 6), -1);
        CHECK.due("4 above", x.coupler(6, 0), -1);
        CHECK.due("4 below", x.coupler(0, -1), -1);
        CHECK.due("4 first", x.coupler(0, 1), 0);
        CHECK.due("4 twice", x.coupler(0, 1), -1);
        CHECK.due("4 turned", x.coupler(1, 0), -1);
        CHECK.due("4 apart", x.coupler(2, 3), 1);
        CHECK.due("4 joins two rows", x.coupler(3, 1), 2);
        CHECK.due("4 joined by a row", x.coupler(0, 2), -1);
        CHECK.due("4 joined by a row", x.coupler(3, 0), -1);
        CHECK.due("4 another", x.coupler(4, 0), 3);
        CHECK.due("4 another", x.coupler(5, 4), 4);
        CHECK.due("4 joined by a row", x.coupler(5, 2), -1);
        CHECK.due("4 five", x.count(3), 5);
    }

    /** Two lines, a coupler, a device with an object of group 5 on the second one. */
    private static HouseWires twoLines() {
        HouseWires x = new HouseWires();
        x.line(1);
        x.line(2);
        x.coupler(0, 1);
        x.device(1, 1);
        x.object(0, 4, 31, 1);
        x.link(0, 0, 5);
        return x;
    }

    private static int passedOf(HouseWires x, int group) {
        int before = x.count(8);
        Wire.send(x, 0, Wire.toGroup(Wire.NEW_LOW, group, 0, 128, 9));
        x.step(9);
        return x.count(8) - before;
    }

    private static void modes() {
        HouseWires x = twoLines();
        CHECK.no("5 below", x.mode(0, -1));
        CHECK.no("5 above", x.mode(0, 3));
        CHECK.no("5 no coupler", x.mode(1, 1));
        CHECK.no("5 no coupler", x.mode(-1, 1));
        CHECK.due("4 empty filter", passedOf(x, 5), 0);
        CHECK.due("5 mode 0, group 0", passedOf(x, 0), 1);
        CHECK.yes("5 all", x.mode(0, 1));
        CHECK.due("5 mode 1", passedOf(x, 5), 1);
        CHECK.due("5 mode 1 passes", x.value(0, 0), 9);
        CHECK.due("5 mode 1, group 0", passedOf(x, 0), 1);
        CHECK.yes("5 none", x.mode(0, 2));
        x.filter(0, 5, true);
        CHECK.due("5 mode 2", passedOf(x, 5), 0);
        CHECK.due("5 mode 2, group 0", passedOf(x, 0), 0);
        CHECK.yes("5 filtered", x.mode(0, 0));
        CHECK.due("5 mode 0, in the filter", passedOf(x, 5), 1);
        CHECK.due("5 mode 0, not in it", passedOf(x, 6), 0);
    }

    private static void filters() {
        HouseWires x = twoLines();
        CHECK.no("6 below", x.filter(0, 0, true));
        CHECK.no("6 above", x.filter(0, 65536, true));
        CHECK.no("6 no coupler", x.filter(1, 5, true));
        CHECK.no("6 no coupler", x.filter(-1, 5, true));
        CHECK.yes("6 least", x.filter(0, 1, true));
        CHECK.yes("6 most", x.filter(0, 65535, true));
        CHECK.yes("6 most again", x.filter(0, 65535, true));
        CHECK.due("6 passes", passedOf(x, 65535), 1);
        CHECK.due("6 passes not", passedOf(x, 5), 0);
        CHECK.yes("6 out again", x.filter(0, 65535, false));
        CHECK.due("6 out of it", passedOf(x, 65535), 0);
        CHECK.due("6 still in it", passedOf(x, 1), 1);
        CHECK.yes("6 wasn't in it", x.filter(0, 65535, false));
    }

    private static void fullFilter() {
        HouseWires x = twoLines();
        for (int group = 1; group <= 64; group++) {
            CHECK.yes("6 group " + group, x.filter(0, group, true));
        }
        CHECK.no("6 a 65th", x.filter(0, 65, true));
        CHECK.due("6 passes not", passedOf(x, 65), 0);
        CHECK.yes("6 one of the 64", x.filter(0, 64, true));
        CHECK.yes("6 first out", x.filter(0, 1, false));
        CHECK.due("6 first passes not", passedOf(x, 1), 0);
        CHECK.due("6 last passes", passedOf(x, 64), 1);
        CHECK.yes("6 room for one", x.filter(0, 65, true));
        CHECK.due("6 passes now", passedOf(x, 65), 1);
        CHECK.no("6 full again", x.filter(0, 1, true));
    }

    private static int answerTo(HouseWires x, int line, int goal) {
        Wire.send(x, line, Wire.toAddress(0x6363, goal, 1, 2));
        x.step(1);
        int answer = x.count(9);
        x.step(9);
        return answer;
    }

    private static void addressesOverCouplers() {
        HouseWires x = new HouseWires();
        for (int l = 0; l < 6; l++) {
            x.line(10 + l);
        }
        // 3 - 1 - 0 - 2, and 4 - 5 apart, made so that joined rows are joined.
        x.coupler(0, 2);
        x.coupler(1, 3);
        x.coupler(5, 4);
        x.coupler(0, 1);
        x.mode(0, 2);
        int[][] passing = {{0, 2}, {2, 0}, {3, 2}, {2, 3}, {1, 0}, {4, 5}, {5, 4}, {0, 3}};
        for (int[] way : passing) {
            CHECK.due("2 way " + way[0] + " to " + way[1],
                    answerTo(x, way[0], 256 * (10 + way[1]) + 1), 1);
        }
        int[][] barred = {{0, 0}, {0, 4}, {4, 0}, {3, 3}, {2, 2}, {0, 6}, {5, 5}};
        for (int[] way : barred) {
            CHECK.due("2 no way " + way[0] + " to " + way[1],
                    answerTo(x, way[0], 256 * (10 + way[1]) + 1), 0);
        }
        int before = x.count(8);
        CHECK.due("2 far end", answerTo(x, 3, 256 * 12 + 7), 1);
        CHECK.due("2 passed three times", x.count(8) - before, 3);
    }

    private static void rowOfCouplers() {
        HouseWires x = new HouseWires();
        for (int l = 0; l < 6; l++) {
            x.line(10 + l);
        }
        // Made from the middle, the left and the right.
        x.coupler(2, 3);
        x.coupler(1, 2);
        x.coupler(3, 4);
        x.coupler(1, 0);
        x.coupler(4, 5);
        for (int from = 0; from < 6; from++) {
            for (int to = 0; to < 6; to++) {
                int before = x.count(8);
                Wire.send(x, from, Wire.toAddress(0x6363, 256 * (10 + to) + 9, 1, 2));
                x.step(12);
                CHECK.due("2 from " + from + " to " + to, x.count(8) - before,
                        Math.abs(from - to));
            }
        }
    }

    private static void fullLine() {
        HouseWires x = new HouseWires();
        for (int l = 0; l < 6; l++) {
            x.line(l);
        }
        for (int c = 0; c < 5; c++) {
            CHECK.due("4 coupler", x.coupler(0, c + 1), c);
            x.mode(c, 1);
        }
        for (int d = 0; d < 24; d++) {
            CHECK.due("3 device", x.device(0, d + 1), d);
            x.object(d, 4, 31, 1);
            x.link(d, 0, 5);
        }
        Wire.send(x, 0, Wire.toGroup(Wire.NEW_LOW, 5, 0, 128, 9));
        x.step(1);
        CHECK.due("2 ACK by all", x.count(9), 1);
        CHECK.due("2 heard by all couplers", x.count(8), 5);
        for (int d = 0; d < 24; d++) {
            CHECK.due("2 heard by device " + d, x.value(d, 0), 9);
        }
        x.busy(23, 1);
        Wire.send(x, 0, Wire.toGroup(Wire.NEW_LOW, 5, 0, 128, 8));
        x.step(1);
        CHECK.due("2 BUSY by the last one", x.connection(23, 9), 0);
        CHECK.due("2 BUSY by the last one", x.value(23, 0), 9);
    }

    private static void hops() {
        HouseWires x = twoLines();
        x.mode(0, 1);
        x.set(0, 0, 3);
        x.step(2);
        CHECK.sent("2 six of a device, then five", x,
                Wire.telegram(Wire.NEW_NORMAL, 0x0201, 5, 128 + 80, 0, 128, 3));
        CHECK.due("2 on the first line", x.count(10), 0);
        x.step(3);
        int[] now = Wire.telegram(Wire.NEW_LOW, 0x6363, 5, 128 + 16, 0, 128, 3);
        Wire.send(x, 0, now);
        x.step(2);
        CHECK.sent("2 one hop less", x, Wire.telegram(Wire.NEW_LOW, 0x6363, 5, 128, 0, 128, 3));
        CHECK.due("2 taken", x.value(0, 0), 3);
        Wire.send(x, 0, Wire.telegram(Wire.NEW_LOW, 0x6363, 5, 128 + 112, 0, 128, 4));
        x.step(2);
        CHECK.sent("2 seven stay", x, Wire.telegram(Wire.NEW_LOW, 0x6363, 5, 240, 0, 128, 4));
        Wire.send(x, 0, Wire.telegram(Wire.NEW_LOW, 0x6363, 5, 128, 0, 128, 8));
        x.step(1);
        CHECK.due("2 no hops, no answer", x.count(9), 0);
        x.step(8);
        CHECK.due("2 no hops, not taken", x.value(0, 0), 4);
        Wire.send(x, 0, Wire.telegram(Wire.NEW_URGENT - 32, 0x6363, 5, 128 + 48, 0, 128, 6));
        x.step(2);
        CHECK.sent("2 repeated ones go on as new", x,
                Wire.telegram(Wire.NEW_URGENT, 0x6363, 5, 128 + 32, 0, 128, 6));
        CHECK.due("8 passed", x.count(8), 4);
    }

    private static void stationsInOrder() {
        HouseWires x = twoLines();
        x.mode(0, 1);
        // Made behind the coupler, and yet ahead of it and of the tester in the line's order.
        x.device(0, 2);
        x.object(1, 4, 31, 1);
        x.link(1, 0, 5);
        Wire.send(x, 0, Wire.telegram(Wire.NEW_NORMAL, 0x0102, 5, 128 + 96, 0, 128, 7));
        x.set(1, 0, 7);
        x.step(1);
        CHECK.due("2 of those all alike the first station sends", x.connection(1, 7), 0);
        CHECK.due("2 the tester waits, and what the coupler passes", x.count(11), 2);
        x.step(1);
        CHECK.due("2 then the tester", x.updated(1, 0), 1);
    }
}

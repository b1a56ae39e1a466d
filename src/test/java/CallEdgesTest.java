/** The edges that promises 1 to 6 and 24 to 31 name: a method for each of their sentences. */
public final class CallEdgesTest {
    private static final Check CHECK = new Check("CallEdgesTest");
    private static final int[] FAR = {Integer.MIN_VALUE, Integer.MAX_VALUE};

    public static void main(String[] args) {
        newObjectHasNothing();
        newObjectTakesNoNumbers();
        sixLines();
        numbersOfLines();
        anotherLinesNumber();
        twentyFourDevices();
        noSuchLineForADevice();
        lastOfADevice();
        anotherDevicesAddress();
        fiveCouplers();
        noSuchLinesForACoupler();
        couplerOfOneLine();
        linesJoinedAlready();
        newCoupler();
        modes();
        noSuchCoupler();
        groupsOfAFilter();
        sixtyFourInAFilter();
        oneThatIsInAFullFilter();
        roomInAFullFilter();
        filterThatBecomesEmpty();
        eachCouplerHasItsOwn();
        busyNumbers();
        busyTwentyTimes();
        busyInPlaceOfBusy();
        sixtyBytesOfTape();
        bytesOfNumbers();
        endsOfTheTape();
        tapesForATelegram();
        noLineForATape();
        tapeThatWaits();
        numbersOfHarms();
        placesOfHarms();
        turnsOfHarms();
        inPlaceOfAnotherHarm();
        sixtyFourHarms();
        sixtyFourOfThoseNotSent();
        harmsOfSeveral();
        harmWithoutThatByte();
        farthestHarm();
        steps();
        nothingSent();
        bytesOfTheLatest();
        meantNotHeard();
        whatIsCounted();
        countsOfANewObject();
        CHECK.end();
    }

    /** A line of NUMBER 1 with devices 1 and 2, each with an object of 8 bits in group 5. */
    private static HouseWires pair() {
        HouseWires x = new HouseWires();
        x.line(1);
        for (int d = 0; d < 2; d++) {
            x.device(0, d + 1);
            x.object(d, 4, 31, 1);
            x.link(d, 0, 5);
        }
        return x;
    }

    private static HouseWires lines(int n) {
        HouseWires x = new HouseWires();
        for (int l = 0; l < n; l++) {
            x.line(10 + l);
        }
        return x;
    }

    /** How many couplers pass a telegram of a group that line 0's tester sends. */
    private static int passed(HouseWires x, int group) {
        int before = x.count(8);
        Wire.send(x, 0, Wire.toGroup(Wire.NEW_LOW, group, 0, 128, 9));
        x.step(4);
        return x.count(8) - before;
    }

    private static void newObjectHasNothing() {
        CHECK.by("No LINES, DEVICES, COUPLERS; an empty TAPE.");
        HouseWires x = new HouseWires();
        CHECK.due("lines", x.count(1), 0);
        CHECK.due("devices", x.count(2), 0);
        CHECK.due("couplers", x.count(3), 0);
        CHECK.due("tape", x.count(13), 0);
        CHECK.due("a byte of the tape", x.end(1), -1);
        CHECK.due("no byte of the tape", x.end(0), 0);
        CHECK.due("a step sends nothing", x.step(1), 0);
    }

    private static void newObjectTakesNoNumbers() {
        CHECK.by("No LINES, DEVICES, COUPLERS; an empty TAPE.");
        HouseWires x = new HouseWires();
        CHECK.due("device", x.device(0, 1), -1);
        CHECK.due("coupler", x.coupler(0, 0), -1);
        CHECK.no("mode", x.mode(0, 1));
        CHECK.no("filter", x.filter(0, 1, true));
        CHECK.due("object", x.object(0, 0, 0, 0), -1);
        CHECK.no("flags", x.flags(0, 0, 0));
        CHECK.no("link", x.link(0, 0, 1));
        CHECK.due("set", x.set(0, 0, 0), -1);
        CHECK.due("ask", x.ask(0, 0), -1);
        CHECK.due("value", x.value(0, 0), -1);
        CHECK.due("updated", x.updated(0, 0), -1);
        CHECK.due("hundredths", x.hundredths(0, 0), Long.MIN_VALUE);
        CHECK.due("point", x.point(0, 0, 0), -1);
        CHECK.no("connect", x.connect(0, 0));
        CHECK.no("disconnect", x.disconnect(0));
        CHECK.no("peek", x.peek(0, 0, 1));
        CHECK.no("poke", x.poke(0, 0, 1, 0));
        CHECK.due("memory", x.memory(0, 0), -1);
        CHECK.no("store", x.store(0, 0, 0));
        CHECK.due("reply", x.reply(0, -1), -1);
        CHECK.due("connection", x.connection(0, 7), -1);
        CHECK.no("busy", x.busy(0, 0));
        x.feed(0, 0, 0, 0, 0);
        CHECK.due("raw", x.raw(0), -1);
    }

    private static void sixLines() {
        CHECK.by("A new LINE: its number; NONE: there are six");
        HouseWires x = new HouseWires();
        for (int l = 0; l < 6; l++) {
            CHECK.due("line", x.line(100 + l), l);
        }
        CHECK.due("a seventh", x.line(50), -1);
        CHECK.due("how many", x.count(1), 6);
        CHECK.due("a device on the sixth", x.device(5, 1), 0);
        CHECK.due("a device on the seventh", x.device(6, 1), -1);
        CHECK.due("a coupler to the seventh", x.coupler(0, 6), -1);
    }

    private static void numbersOfLines() {
        CHECK.by("NUMBER is not 0 to 255");
        HouseWires x = new HouseWires();
        for (int number : new int[] {-1, 256, -255, FAR[0], FAR[1]}) {
            CHECK.due("line " + number, x.line(number), -1);
        }
        CHECK.due("how many", x.count(1), 0);
        CHECK.due("line 0", x.line(0), 0);
        CHECK.due("line 255", x.line(255), 1);
        x.device(0, 1);
        x.device(1, 1);
        CHECK.due("address on 0", x.connection(0, 8), 1);
        CHECK.due("address on 255", x.connection(1, 8), 65281);
    }

    private static void anotherLinesNumber() {
        CHECK.by("or another LINE's");
        HouseWires x = lines(5);
        for (int l = 0; l < 5; l++) {
            CHECK.due("again " + l, x.line(10 + l), -1);
        }
        CHECK.due("how many", x.count(1), 5);
        CHECK.due("another one", x.line(9), 5);
    }

    private static void twentyFourDevices() {
        CHECK.by("its number; NONE: there are 24");
        HouseWires x = lines(3);
        for (int d = 0; d < 24; d++) {
            CHECK.due("device", x.device(d % 3, d + 1), d);
        }
        for (int l = 0; l < 3; l++) {
            CHECK.due("a 25th on line " + l, x.device(l, 100), -1);
        }
        CHECK.due("how many", x.count(2), 24);
        CHECK.due("the last one", x.connection(23, 8), 256 * 12 + 24);
        CHECK.due("none behind it", x.connection(24, 8), -1);
    }

    private static void noSuchLineForADevice() {
        CHECK.by("no such LINE");
        HouseWires x = lines(2);
        for (int line : new int[] {-1, 2, 6, FAR[0], FAR[1]}) {
            CHECK.due("line " + line, x.device(line, 1), -1);
        }
        CHECK.due("how many", x.count(2), 0);
        CHECK.due("the last line", x.device(1, 1), 0);
    }

    private static void lastOfADevice() {
        CHECK.by("last is not 1 to 255");
        HouseWires x = lines(1);
        for (int last : new int[] {0, -1, 256, 257, FAR[0], FAR[1]}) {
            CHECK.due("last " + last, x.device(0, last), -1);
        }
        CHECK.due("how many", x.count(2), 0);
        CHECK.due("last 1", x.device(0, 1), 0);
        CHECK.due("last 255", x.device(0, 255), 1);
        CHECK.due("address", x.connection(0, 8), 2561);
        CHECK.due("address", x.connection(1, 8), 2815);
    }

    private static void anotherDevicesAddress() {
        CHECK.by("or another one has that ADDRESS");
        HouseWires x = lines(2);
        CHECK.due("first", x.device(0, 7), 0);
        CHECK.due("again", x.device(0, 7), -1);
        CHECK.due("on another line", x.device(1, 7), 1);
        CHECK.due("again", x.device(1, 7), -1);
        CHECK.due("how many", x.count(2), 2);
        CHECK.due("another one", x.device(0, 8), 2);
    }

    private static void fiveCouplers() {
        CHECK.by("NONE: there are five");
        HouseWires x = lines(6);
        for (int c = 0; c < 5; c++) {
            CHECK.due("coupler", x.coupler(c, c + 1), c);
        }
        for (int a = 0; a < 6; a++) {
            CHECK.due("a sixth", x.coupler(a, (a + 3) % 6), -1);
        }
        CHECK.due("how many", x.count(3), 5);
        CHECK.yes("the fifth", x.mode(4, 1));
        CHECK.no("no sixth", x.mode(5, 1));
    }

    private static void noSuchLinesForACoupler() {
        CHECK.by("no such LINES");
        HouseWires x = lines(2);
        for (int line : new int[] {-1, 2, 33, FAR[0], FAR[1]}) {
            CHECK.due("from " + line, x.coupler(line, 0), -1);
            CHECK.due("to " + line, x.coupler(0, line), -1);
            CHECK.due("both " + line, x.coupler(line, line), -1);
        }
        CHECK.due("how many", x.count(3), 0);
        CHECK.due("the last line", x.coupler(1, 0), 0);
    }

    private static void couplerOfOneLine() {
        CHECK.by("or they are one");
        HouseWires x = lines(2);
        CHECK.due("0 and 0", x.coupler(0, 0), -1);
        CHECK.due("1 and 1", x.coupler(1, 1), -1);
        CHECK.due("how many", x.count(3), 0);
    }

    private static void linesJoinedAlready() {
        CHECK.by("or joined already");
        HouseWires x = lines(5);
        x.coupler(0, 1);
        CHECK.due("by one", x.coupler(0, 1), -1);
        CHECK.due("by one, turned", x.coupler(1, 0), -1);
        x.coupler(1, 2);
        CHECK.due("by two", x.coupler(0, 2), -1);
        x.coupler(4, 3);
        CHECK.due("another row", x.coupler(2, 3), 3);
        CHECK.due("by four", x.coupler(0, 4), -1);
        CHECK.due("by four, turned", x.coupler(4, 0), -1);
        CHECK.due("how many", x.count(3), 4);
    }

    private static void newCoupler() {
        CHECK.by("A new COUPLER of MODE 0, with an empty FILTER");
        HouseWires x = lines(2);
        x.coupler(0, 1);
        CHECK.due("group 0", passed(x, 0), 1);
        for (int group : new int[] {1, 5, 255, 256, 65535}) {
            CHECK.due("group " + group, passed(x, group), 0);
        }
    }

    private static void modes() {
        CHECK.by("A COUPLER's MODE, 0 to 2.");
        HouseWires x = lines(2);
        x.coupler(0, 1);
        CHECK.yes("1", x.mode(0, 1));
        for (int mode : new int[] {-1, 3, FAR[0], FAR[1]}) {
            CHECK.no("mode " + mode, x.mode(0, mode));
            CHECK.due("still 1", passed(x, 5), 1);
        }
        CHECK.yes("2", x.mode(0, 2));
        CHECK.due("none", passed(x, 0), 0);
        CHECK.yes("0", x.mode(0, 0));
        CHECK.due("group 0", passed(x, 0), 1);
        CHECK.due("group 5", passed(x, 5), 0);
    }

    private static void noSuchCoupler() {
        CHECK.by("False: no such ones");
        HouseWires x = lines(3);
        x.coupler(0, 1);
        for (int c : new int[] {-1, 1, 5, FAR[0], FAR[1]}) {
            CHECK.no("mode of " + c, x.mode(c, 1));
            CHECK.no("filter of " + c, x.filter(c, 5, true));
            CHECK.no("filter of " + c, x.filter(c, 5, false));
        }
        CHECK.due("that of 0 is as it was", passed(x, 5), 0);
    }

    private static void groupsOfAFilter() {
        CHECK.by("A GROUP (1 to 65535) comes into a COUPLER's FILTER, or goes out of it.");
        HouseWires x = lines(2);
        x.coupler(0, 1);
        for (int group : new int[] {0, -1, 65536, FAR[0], FAR[1]}) {
            CHECK.no("in " + group, x.filter(0, group, true));
            CHECK.no("out " + group, x.filter(0, group, false));
        }
        CHECK.due("0 passes still", passed(x, 0), 1);
        for (int group : new int[] {1, 65535}) {
            CHECK.due("not yet " + group, passed(x, group), 0);
            CHECK.yes("in " + group, x.filter(0, group, true));
            CHECK.due("passes " + group, passed(x, group), 1);
            CHECK.yes("out " + group, x.filter(0, group, false));
            CHECK.due("no more " + group, passed(x, group), 0);
        }
    }

    private static HouseWires fullFilter() {
        HouseWires x = lines(2);
        x.coupler(0, 1);
        for (int i = 0; i < 64; i++) {
            CHECK.yes("group in", x.filter(0, 100 + i, true));
        }
        return x;
    }

    private static void sixtyFourInAFilter() {
        CHECK.by("64 are in it already, and this one isn't");
        HouseWires x = fullFilter();
        CHECK.no("a 65th", x.filter(0, 200, true));
        CHECK.due("it does not pass", passed(x, 200), 0);
        CHECK.due("the first one does", passed(x, 100), 1);
        CHECK.due("the 64th does", passed(x, 163), 1);
        CHECK.no("out, but it isn't in it", x.filter(0, 200, false));
        CHECK.due("the first one still does", passed(x, 100), 1);
    }

    private static void oneThatIsInAFullFilter() {
        CHECK.by("64 are in it already, and this one isn't");
        HouseWires x = fullFilter();
        CHECK.yes("the first one again", x.filter(0, 100, true));
        CHECK.yes("the 64th again", x.filter(0, 163, true));
        CHECK.no("still full", x.filter(0, 200, true));
        CHECK.yes("one out", x.filter(0, 163, false));
        CHECK.yes("and in again", x.filter(0, 163, true));
        CHECK.no("full again", x.filter(0, 200, true));
    }

    private static void roomInAFullFilter() {
        CHECK.by("64 are in it already, and this one isn't");
        HouseWires x = fullFilter();
        CHECK.yes("one in the middle out", x.filter(0, 130, false));
        CHECK.yes("room for one", x.filter(0, 200, true));
        CHECK.no("full again", x.filter(0, 130, true));
        CHECK.due("out", passed(x, 130), 0);
        CHECK.due("in", passed(x, 200), 1);
        CHECK.due("beside it", passed(x, 129), 1);
        CHECK.due("beside it", passed(x, 131), 1);
        CHECK.due("the last one", passed(x, 163), 1);
    }

    private static void filterThatBecomesEmpty() {
        CHECK.by("or goes out of it");
        HouseWires x = lines(2);
        x.coupler(0, 1);
        CHECK.yes("out of an empty one", x.filter(0, 5, false));
        CHECK.due("does not pass", passed(x, 5), 0);
        CHECK.yes("in", x.filter(0, 5, true));
        CHECK.yes("in twice is once", x.filter(0, 5, true));
        CHECK.yes("out", x.filter(0, 5, false));
        CHECK.due("does not pass", passed(x, 5), 0);
        CHECK.yes("out twice", x.filter(0, 5, false));
    }

    private static void eachCouplerHasItsOwn() {
        CHECK.by("A new COUPLER of MODE 0, with an empty FILTER");
        HouseWires x = lines(3);
        x.coupler(0, 1);
        x.coupler(0, 2);
        CHECK.yes("the first one's filter", x.filter(0, 5, true));
        CHECK.due("one passes", passed(x, 5), 1);
        CHECK.yes("the second one's filter", x.filter(1, 5, true));
        CHECK.due("both pass", passed(x, 5), 2);
        CHECK.yes("the first one's mode", x.mode(0, 2));
        CHECK.due("one passes", passed(x, 5), 1);
    }

    private static void busyNumbers() {
        CHECK.by("A DEVICE is BUSY for the next n (0 to 20) that it would take.");
        HouseWires x = pair();
        x.busy(0, 7);
        for (int n : new int[] {-1, 21, FAR[0], FAR[1]}) {
            CHECK.no("busy " + n, x.busy(0, n));
            CHECK.due("as before", x.connection(0, 9), 7);
        }
        for (int d : new int[] {-1, 2, FAR[0], FAR[1]}) {
            CHECK.no("device " + d, x.busy(d, 1));
        }
        CHECK.yes("20", x.busy(0, 20));
        CHECK.due("20", x.connection(0, 9), 20);
        CHECK.yes("0", x.busy(0, 0));
        CHECK.due("0", x.connection(0, 9), 0);
        Wire.send(x, 0, Wire.toGroup(Wire.NEW_LOW, 5, 0, 128, 9));
        x.step(1);
        CHECK.due("taken at 0", x.count(9), 1);
    }

    private static void busyTwentyTimes() {
        CHECK.by("A DEVICE is BUSY for the next n (0 to 20) that it would take.");
        HouseWires x = pair();
        x.busy(1, 20);
        for (int i = 0; i < 5; i++) {
            x.set(0, 0, i);
        }
        for (int i = 1; i <= 20; i++) {
            x.step(1);
            CHECK.due("BUSY", x.count(9), 3);
            CHECK.due("still", x.connection(1, 9), 20 - i);
        }
        CHECK.due("each was LOST", x.count(6), 5);
        x.set(0, 0, 77);
        x.step(1);
        CHECK.due("the 21st is taken", x.count(9), 1);
        CHECK.due("the 21st is taken", x.value(1, 0), 77);
    }

    private static void busyInPlaceOfBusy() {
        CHECK.by("A DEVICE is BUSY for the next n (0 to 20) that it would take.");
        HouseWires x = pair();
        x.busy(1, 20);
        x.busy(1, 1);
        CHECK.due("not more", x.connection(1, 9), 1);
        x.set(0, 0, 77);
        x.step(1);
        CHECK.due("BUSY once", x.count(9), 3);
        x.step(1);
        CHECK.due("not twice", x.count(9), 1);
    }

    private static void sixtyBytesOfTape() {
        CHECK.by("how many it has; NONE if these would be more than 60");
        HouseWires x = new HouseWires();
        for (int i = 1; i <= 3; i++) {
            CHECK.due("feed", x.feed(0, 0, 0, 0, 0), 20 * i);
        }
        CHECK.due("80 bytes", x.feed(0, 0, 0, 0, 0), -1);
        CHECK.due("as before", x.count(13), 60);
        x.end(41);
        CHECK.due("61 bytes", x.feed(0, 0, 0, 0, 0), -1);
        CHECK.due("as before", x.count(13), 41);
        x.end(40);
        CHECK.due("60 bytes", x.feed(0, 0, 0, 0, 0), 60);
        x.end(39);
        CHECK.due("59 bytes", x.feed(0, 0, 0, 0, 0), 59);
    }

    private static void bytesOfNumbers() {
        CHECK.by("Twenty bytes come behind the TAPE, of each number the highest first");
        HouseWires x = lines(1);
        x.feed(-1, Integer.MIN_VALUE, Integer.MAX_VALUE, 0x01FE7F80, -2);
        x.raw(0);
        x.step(1);
        CHECK.sent("as fed", x, 255, 255, 255, 255, 128, 0, 0, 0, 127, 255, 255, 255, 1, 254, 127,
                128, 255, 255, 255, 254);
    }

    private static void endsOfTheTape() {
        CHECK.by("The TAPE has its first n bytes alone: n; NONE if it has less, or n is below 0.");
        HouseWires x = lines(1);
        CHECK.due("0 of none", x.end(0), 0);
        CHECK.due("1 of none", x.end(1), -1);
        x.feed(0x01020304, 0x05060708, 0, 0, 0);
        for (int n : new int[] {-1, 21, FAR[0], FAR[1]}) {
            CHECK.due("end " + n, x.end(n), -1);
            CHECK.due("as before", x.count(13), 20);
        }
        CHECK.due("all", x.end(20), 20);
        CHECK.due("one less", x.end(19), 19);
        CHECK.due("it does not come back", x.end(20), -1);
        x.end(3);
        x.feed(0x11121314, 0x21222324, 0, 0, 0);
        x.end(11);
        x.raw(0);
        x.step(1);
        CHECK.sent("the first ones", x, 1, 2, 3, 0x11, 0x12, 0x13, 0x14, 0x21, 0x22, 0x23, 0x24);
        CHECK.due("none left", x.end(1), -1);
    }

    private static void tapesForATelegram() {
        CHECK.by("The TAPE, 8 to 23 bytes (empty then)");
        for (int n : new int[] {0, 1, 7, 24, 25, 40, 60}) {
            HouseWires x = lines(1);
            Wire.fill(x, new int[n]);
            CHECK.due("raw of " + n, x.raw(0), -1);
            CHECK.due("not empty", x.count(13), n);
            CHECK.due("nothing waits", x.count(11), 0);
        }
        for (int n = 8; n <= 23; n++) {
            HouseWires x = lines(1);
            Wire.fill(x, new int[n]);
            CHECK.due("raw of " + n, x.raw(0), 1);
            CHECK.due("empty then", x.count(13), 0);
            CHECK.due("again", x.raw(0), -1);
            x.step(1);
            CHECK.due("bytes", x.sent(-1), n);
        }
    }

    private static void noLineForATape() {
        CHECK.by("NONE: no such LINE, other bytes");
        HouseWires x = lines(2);
        Wire.fill(x, new int[8]);
        for (int line : new int[] {-1, 2, 6, FAR[0], FAR[1]}) {
            CHECK.due("line " + line, x.raw(line), -1);
            CHECK.due("as before", x.count(13), 8);
        }
        CHECK.due("the last line", x.raw(1), 1);
    }

    private static void tapeThatWaits() {
        CHECK.by("-2: it has 8");
        HouseWires x = lines(2);
        for (int i = 1; i <= 8; i++) {
            CHECK.due("in the row", Wire.send(x, 0, 0, 0, 0, 0, 0, 0, 0, i), i);
        }
        Wire.fill(x, 0, 0, 0, 0, 0, 0, 0, 0, 9);
        CHECK.due("a ninth", x.raw(0), -2);
        CHECK.due("the tape is as it was", x.count(13), 9);
        CHECK.due("nothing is dropped", x.count(7), 0);
        x.step(4);
        CHECK.due("room again, with the same tape", x.raw(0), 8);
        x.step(200);
        CHECK.due("all nine were lost", x.count(6), 9);
        CHECK.sent("the ninth was the last", x, 0, 0, 0, 0, 0, 0, 0, 0, 9);
        HouseWires y = lines(1);
        for (int i = 0; i < 8; i++) {
            Wire.send(y, 0, new int[8]);
        }
        Wire.fill(y, new int[7]);
        CHECK.due("other bytes, with 8", y.raw(0), -1);
        Wire.fill(y, new int[8]);
        CHECK.due("no such line, with 8", y.raw(1), -1);
    }

    private static void numbersOfHarms() {
        CHECK.by("the n-th TELEGRAM that will be SENT (0 to 500, 0 the next one)");
        HouseWires x = pair();
        for (int n : new int[] {-1, 501, FAR[0], FAR[1]}) {
            CHECK.no("n " + n, x.harm(n, 0, 1));
        }
        CHECK.due("none is told", x.count(12), 0);
        CHECK.yes("n 0", x.harm(0, 8, 1));
        CHECK.yes("n 500", x.harm(500, 8, 1));
        CHECK.due("two are told", x.count(12), 2);
        x.set(0, 0, 1);
        x.step(1);
        CHECK.due("the next one is harmed", x.count(9), 2);
        x.step(1);
        CHECK.due("the one behind it isn't", x.count(9), 1);
    }

    private static void placesOfHarms() {
        CHECK.by("Byte place (0 to 22)");
        HouseWires x = pair();
        for (int place : new int[] {-1, 23, FAR[0], FAR[1]}) {
            CHECK.no("place " + place, x.harm(0, place, 1));
        }
        CHECK.due("none is told", x.count(12), 0);
        for (int place : new int[] {0, 22}) {
            HouseWires y = pair();
            int[] bytes = Wire.toAddress(0x6363, 257, new int[16]);
            Wire.send(y, 0, bytes);
            Wire.send(y, 0, bytes);
            CHECK.yes("place " + place, y.harm(0, place, 1));
            y.step(1);
            CHECK.due("place " + place + " is turned", y.count(9), 2);
        }
    }

    private static void turnsOfHarms() {
        CHECK.by("is turned by x (1 to 255");
        HouseWires x = pair();
        for (int turn : new int[] {0, -1, 256, 257, FAR[0], FAR[1]}) {
            CHECK.no("x " + turn, x.harm(0, 0, turn));
        }
        CHECK.due("none is told", x.count(12), 0);
        CHECK.yes("x 255", x.harm(0, 8, 255));
        CHECK.yes("x 255", x.harm(0, 9, 255));
        x.set(0, 0, 1);
        x.step(1);
        CHECK.due("turned by 255", x.value(1, 0), 254);
        CHECK.yes("x 1", x.harm(0, 8, 1));
        CHECK.yes("x 1", x.harm(0, 9, 1));
        x.set(0, 0, 6);
        x.step(1);
        CHECK.due("turned by 1", x.value(1, 0), 7);
    }

    private static void inPlaceOfAnotherHarm() {
        CHECK.by("in place of another one for that byte");
        HouseWires x = pair();
        x.harm(0, 8, 12);
        CHECK.yes("another one", x.harm(0, 8, 3));
        x.harm(0, 9, 3);
        CHECK.due("two are told", x.count(12), 2);
        x.set(0, 0, 16);
        x.step(1);
        CHECK.due("not both", x.value(1, 0), 19);
        CHECK.due("ACK", x.count(9), 1);
    }

    private static HouseWires fullOfHarms() {
        HouseWires x = pair();
        for (int i = 0; i < 64; i++) {
            CHECK.yes("harm", x.harm(i, 8, 1));
        }
        return x;
    }

    private static void sixtyFourHarms() {
        CHECK.by("or 64 others are told of TELEGRAMS that weren't SENT");
        HouseWires x = fullOfHarms();
        CHECK.due("64", x.count(12), 64);
        CHECK.no("a 65th of another one", x.harm(64, 8, 1));
        CHECK.no("a 65th of another byte", x.harm(0, 9, 1));
        CHECK.yes("in place of the first one", x.harm(0, 8, 2));
        CHECK.yes("in place of the last one", x.harm(63, 8, 2));
        CHECK.due("64", x.count(12), 64);
    }

    private static void sixtyFourOfThoseNotSent() {
        CHECK.by("or 64 others are told of TELEGRAMS that weren't SENT");
        HouseWires x = fullOfHarms();
        x.set(0, 0, 1);
        x.step(1);
        CHECK.due("63", x.count(12), 63);
        CHECK.yes("room for one", x.harm(500, 22, 1));
        CHECK.no("full again", x.harm(499, 22, 1));
        x.step(3);
        CHECK.due("three more were SENT", x.count(12), 61);
        CHECK.due("four were harmed", x.count(6), 1);
    }

    private static void harmsOfSeveral() {
        CHECK.by("Byte place (0 to 22) of the n-th TELEGRAM that will be SENT");
        HouseWires x = pair();
        int[] turns = {1, 2, 4};
        int[][] harms = {{0, 8}, {1, 8}, {0, 9}, {1, 9}, {2, 8}, {2, 9}};
        for (int[] harm : harms) {
            CHECK.yes("harm", x.harm(harm[0], harm[1], turns[harm[0]]));
        }
        for (int n = 0; n < 3; n++) {
            x.set(0, 0, 64);
            x.step(1);
            CHECK.due("the one of number " + n, x.value(1, 0), 64 + turns[n]);
            CHECK.due("those that are left", x.count(12), 4 - 2 * n);
        }
        x.set(0, 0, 64);
        x.step(1);
        CHECK.due("none more", x.value(1, 0), 64);
    }

    private static void harmWithoutThatByte() {
        CHECK.by("(One without that byte is not harmed.)");
        HouseWires x = pair();
        CHECK.yes("behind the last byte", x.harm(0, 10, 255));
        CHECK.yes("the last one of all", x.harm(0, 22, 255));
        x.set(0, 0, 9);
        x.step(1);
        CHECK.due("it has bytes 0 to 9", x.sent(-1), 10);
        CHECK.due("not harmed", x.count(9), 1);
        CHECK.due("nor told any more", x.count(12), 0);
        x.harm(0, 9, 255);
        x.set(0, 0, 10);
        x.step(1);
        CHECK.due("its last byte is harmed", x.count(9), 2);
    }

    private static void farthestHarm() {
        CHECK.by("the n-th TELEGRAM that will be SENT (0 to 500, 0 the next one)");
        HouseWires x = pair();
        x.harm(500, 8, 1);
        x.object(0, 4, 31, 1);
        x.link(0, 1, 6);
        // The other device has no link to that group, so that each one is sent four times.
        for (int sent = 0; sent < 500; sent += 4) {
            x.set(0, 1, sent);
            x.step(4);
        }
        CHECK.due("500 were sent", x.count(4), 500);
        CHECK.due("none was harmed", x.count(9), 0);
        CHECK.due("it is told still", x.count(12), 1);
        x.set(0, 1, 1);
        x.step(1);
        CHECK.due("this one is harmed", x.count(9), 2);
        CHECK.due("told no more", x.count(12), 0);
        x.step(1);
        CHECK.due("that one was all", x.count(9), 0);
    }

    private static void steps() {
        CHECK.by("IllegalArgumentException: not 1 to 200.");
        HouseWires x = pair();
        x.set(0, 0, 1);
        for (int n : new int[] {0, -1, 201, FAR[0], FAR[1]}) {
            CHECK.due("step " + n, Check.stepOrThrows(x, n), Check.THROWS);
            CHECK.due("the clock", x.count(0), 0);
            CHECK.due("it waits", x.count(11), 1);
        }
        CHECK.due("step 1", Check.stepOrThrows(x, 1), 1);
        CHECK.due("the clock", x.count(0), 1);
        CHECK.due("step 200", Check.stepOrThrows(x, 200), 0);
        CHECK.due("the clock", x.count(0), 201);
    }

    private static void nothingSent() {
        CHECK.by("NoSuchElementException: there is none.");
        HouseWires x = pair();
        x.set(0, 0, 1);
        for (int k : new int[] {-2, -1, 0, 1, 22, 23, FAR[0], FAR[1]}) {
            CHECK.due("sent " + k, Check.sentOrThrows(x, k), Check.THROWS);
        }
        x.step(1);
        CHECK.due("sent -1", Check.sentOrThrows(x, -1), 10);
    }

    private static void bytesOfTheLatest() {
        CHECK.by("Byte k of the TELEGRAM SENT latest; how many it has for k NONE.");
        HouseWires x = lines(1);
        for (int length : new int[] {23, 8}) {
            int[] bytes = new int[length];
            bytes[0] = 1;
            bytes[length - 1] = 2;
            Wire.send(x, 0, bytes);
            x.step(4);
            CHECK.due("NONE", Check.sentOrThrows(x, -1), length);
            CHECK.due("first", Check.sentOrThrows(x, 0), 1);
            CHECK.due("last", Check.sentOrThrows(x, length - 1), 2);
            for (int k : new int[] {length, 23, -2, FAR[0], FAR[1]}) {
                CHECK.due("sent " + k, Check.sentOrThrows(x, k), Check.THROWS);
            }
        }
    }

    private static void meantNotHeard() {
        CHECK.by("as it was meant (REPEATED told)");
        HouseWires x = pair();
        x.harm(0, 0, 255);
        x.harm(1, 9, 1);
        x.set(0, 0, 3);
        x.step(1);
        CHECK.sent("as it was meant", x, Wire.telegram(180, 257, 5, 224, 0, 128, 3));
        x.step(1);
        CHECK.sent("REPEATED", x, Wire.telegram(148, 257, 5, 224, 0, 128, 3));
    }

    private static void whatIsCounted() {
        CHECK.by("NONE for others.");
        HouseWires x = pair();
        for (int what : new int[] {-1, 14, 15, FAR[0], FAR[1]}) {
            CHECK.due("count " + what, x.count(what), -1);
        }
    }

    private static void countsOfANewObject() {
        CHECK.by("10 its LINE (NONE without)");
        HouseWires x = lines(2);
        int[] want = {0, 2, 0, 0, 0, 0, 0, 0, 0, 0, -1, 0, 0, 0};
        for (int what = 0; what < want.length; what++) {
            CHECK.due("count " + what, x.count(what), want[what]);
        }
        x.step(9);
        CHECK.due("still without", x.count(10), -1);
        Wire.send(x, 1, new int[8]);
        x.step(1);
        CHECK.due("its line", x.count(10), 1);
    }
}

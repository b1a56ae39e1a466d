/** The edges of parts 4 and 5, MEMORY and CONNECTIONS, and of promises 16 to 23. */
public final class ConnectionEdgesTest {
    private static final Check CHECK = new Check("ConnectionEdgesTest");
    private static final int ONE = 257;
    private static final int TWO = 258;
    private static final int ELSE = 0x0909;
    private static final int[] FAR = {Integer.MIN_VALUE, Integer.MAX_VALUE};

    public static void main(String[] args) {
        addressesToConnect();
        connectOnlyIfClosed();
        connectWithEight();
        noSuchDevice();
        disconnectOnlyIfNotClosed();
        disconnectWithEight();
        bytesToPeek();
        placesToPeek();
        peekOnlyIfOpen();
        peekWithEight();
        bytesToPoke();
        placesToPoke();
        pokeOnlyIfOpen();
        bytesOfMemory();
        bytesToStore();
        repliesOfNone();
        bytesOfReplies();
        replyOfAnEmptyAnswer();
        whatIsTold();
        toldIfClosed();
        toldIfJoining();
        toldIfWaiting();
        bytesToRead();
        endOfMemoryRead();
        bytesToWrite();
        endOfMemoryWritten();
        answersThatAreKept();
        otherOrders();
        orderByTheFirstByte();
        opensAndCloses();
        takesAndRefusesOfEachNumber();
        takesOfOthers();
        takesWhileItJoins();
        dataOfEachFirstByte();
        dataOfOneByte();
        numbersGoRound();
        gotGoesRound();
        answersGoRound();
        triesUpToThree();
        pauseOfThirty();
        idleOfSixty();
        idleOfSixtyWhileItWaits();
        againAndIdleAtOnce();
        idleFromZero();
        triesFromZero();
        dataOfOthers();
        againWithEight();
        idleWithEight();
        answerWithSeven();
        closesWithSeven();
        openedAfterClosing();
        joinsTillLost();
        joinsTillDoneTheFourthTime();
        opensOfAnEarlierConnection();
        closedWhileJoining();
        telegramsBesideAnOpens();
        CHECK.end();
    }

    private static HouseWires house() {
        HouseWires x = new HouseWires();
        x.line(1);
        x.device(0, 1);
        x.device(0, 2);
        return x;
    }

    /** Device 0 is OPEN with ELSE, at which there is nobody but the tester; IDLE is 1. */
    private static HouseWires opened() {
        HouseWires x = house();
        hear(x, 128);
        return x;
    }

    /** Device 0 is OPEN with ELSE, and so many WRITES wait in its OUT row. */
    private static HouseWires openedWith(int waiting) {
        HouseWires x = opened();
        fillRow(x, waiting);
        return x;
    }

    /** So many WRITES of PRIORITY NORMAL to a group that nobody takes come into the OUT row. */
    private static void fillRow(HouseWires x, int waiting) {
        x.object(0, 0, 31, 1);
        x.link(0, 0, 5);
        for (int i = 0; i < waiting; i++) {
            x.set(0, 0, i);
        }
    }

    /** Device 0 hears a PDU from ELSE: what it answers. */
    private static int hear(HouseWires x, int... pdu) {
        return hearFrom(x, ELSE, pdu);
    }

    private static int hearFrom(HouseWires x, int source, int... pdu) {
        Wire.send(x, 0, Wire.toAddress(source, ONE, pdu));
        x.step(1);
        return x.count(9);
    }

    private static void how(String what, HouseWires x, int... want) {
        for (int i = 0; i < want.length; i++) {
            CHECK.due(what + ", connection " + i, x.connection(0, i), want[i]);
        }
    }

    /** The next telegram on the line is device 0's, to ELSE, and it is lost then. */
    private static void says(String what, HouseWires x, int... pdu) {
        x.step(1);
        CHECK.sent(what, x, Wire.toAddress(ONE, ELSE, pdu));
        x.step(3);
    }

    private static int[] order(int s, int second, int place, int bytes) {
        int[] pdu = new int[4 + bytes];
        pdu[0] = 66 + 4 * s;
        pdu[1] = second;
        pdu[2] = place >> 8;
        pdu[3] = place & 255;
        for (int i = 0; i < bytes; i++) {
            pdu[4 + i] = 101 + i;
        }
        return pdu;
    }

    private static void addressesToConnect() {
        CHECK.by("JOINS an ADDRESS (0 to 65535): its PARTNER");
        for (int address : new int[] {-1, 65536, FAR[0], FAR[1]}) {
            HouseWires x = house();
            CHECK.no("address " + address, x.connect(0, address));
            how("address " + address, x, 0, -1, 0, 0, 0, 0, 0, 0);
        }
        for (int address : new int[] {0, 1, 65535}) {
            HouseWires x = house();
            CHECK.yes("address " + address, x.connect(0, address));
            how("address " + address, x, 3, address, 0, 0, 0, 0, 0, 1);
            x.step(1);
            CHECK.sent("OPENS", x, Wire.toAddress(ONE, address, 128));
        }
    }

    private static void connectOnlyIfClosed() {
        CHECK.by("A CLOSED DEVICE");
        HouseWires x = house();
        x.connect(0, TWO);
        CHECK.no("JOINS", x.connect(0, ELSE));
        how("as before", x, 3, TWO, 0, 0, 0, 0, 0, 1);
        x.step(1);
        CHECK.no("OPEN", x.connect(0, ELSE));
        how("as before", x, 1, TWO, 0, 0, 0, 0, 1, 0);
        x.peek(0, 0, 1);
        CHECK.no("WAITS", x.connect(0, ELSE));
        how("as before", x, 2, TWO, 0, 0, 0, 0, 0, 1);
        x.disconnect(0);
        CHECK.yes("CLOSED", x.connect(0, ELSE));
        how("other", x, 3, ELSE, 0, 0, 0, 0, 0, 3);
    }

    private static void connectWithEight() {
        CHECK.by("with room in its OUT row");
        HouseWires x = house();
        fillRow(x, 7);
        CHECK.yes("with 7", x.connect(0, TWO));
        how("with 7", x, 3, TWO, 0, 0, 0, 0, 0, 8);
        HouseWires y = house();
        fillRow(y, 8);
        CHECK.no("with 8", y.connect(0, TWO));
        how("with 8", y, 0, -1, 0, 0, 0, 0, 0, 8);
        CHECK.due("not dropped", y.count(7), 0);
    }

    private static void noSuchDevice() {
        CHECK.by("NONE for others, without one.");
        HouseWires x = opened();
        for (int d : new int[] {-1, 2, 24, FAR[0], FAR[1]}) {
            CHECK.no("connect", x.connect(d, TWO));
            CHECK.no("disconnect", x.disconnect(d));
            CHECK.no("peek", x.peek(d, 0, 1));
            CHECK.no("poke", x.poke(d, 0, 1, 1));
            CHECK.due("memory", x.memory(d, 0), -1);
            CHECK.no("store", x.store(d, 0, 1));
            CHECK.due("reply", x.reply(d, -1), -1);
            CHECK.due("reply", x.reply(d, 0), -1);
            for (int what = 0; what < 12; what++) {
                CHECK.due("connection", x.connection(d, what), -1);
            }
        }
        CHECK.due("nothing waits", x.count(11), 0);
    }

    private static void disconnectOnlyIfNotClosed() {
        CHECK.by("A DEVICE that is not CLOSED CLOSES.");
        HouseWires x = house();
        CHECK.no("CLOSED", x.disconnect(0));
        CHECK.due("nothing waits", x.count(11), 0);
        x.connect(0, ELSE);
        CHECK.yes("JOINS", x.disconnect(0));
        how("closed", x, 0, -1, 0, 0, 0, 0, 0, 2);
        CHECK.no("twice", x.disconnect(0));
        HouseWires y = opened();
        CHECK.yes("OPEN", y.disconnect(0));
        how("closed", y, 0, -1, 0, 0, 0, 0, 0, 1);
        says("CLOSES", y, 129);
        HouseWires z = opened();
        z.peek(0, 0, 1);
        z.step(4);
        CHECK.yes("WAITS", z.disconnect(0));
        says("CLOSES", z, 129);
        CHECK.due("it waits for nothing", z.step(100), 0);
    }

    private static void disconnectWithEight() {
        CHECK.by("To CLOSE: a CLOSES to the PARTNER comes into the OUT row, it is CLOSED.");
        HouseWires x = openedWith(7);
        CHECK.yes("with 7", x.disconnect(0));
        how("with 7", x, 0, -1, 0, 0, 0, 0, 0, 8);
        CHECK.due("not dropped", x.count(7), 0);
        HouseWires y = openedWith(8);
        CHECK.yes("with 8", y.disconnect(0));
        how("with 8", y, 0, -1, 0, 0, 0, 0, 0, 8);
        CHECK.due("dropped", y.count(7), 1);
    }

    private static void bytesToPeek() {
        CHECK.by("READ n bytes (1 to 12)");
        for (int n : new int[] {0, -1, 13, FAR[0], FAR[1]}) {
            HouseWires x = opened();
            CHECK.no("n " + n, x.peek(0, 0, n));
            how("n " + n, x, 1, ELSE, 0, 0, 0, 0, 1, 0);
        }
        for (int n : new int[] {1, 12}) {
            HouseWires x = opened();
            CHECK.yes("n " + n, x.peek(0, 0, n));
            how("n " + n, x, 2, ELSE, 0, 0, 0, 0, 0, 1);
            says("n " + n, x, 66, n, 0, 0);
        }
    }

    private static void placesToPeek() {
        CHECK.by("from a place on (0 to 65535)");
        for (int at : new int[] {-1, 65536, FAR[0], FAR[1]}) {
            HouseWires x = opened();
            CHECK.no("at " + at, x.peek(0, at, 1));
            CHECK.no("at " + at, x.poke(0, at, 1, 1));
            how("at " + at, x, 1, ELSE, 0, 0, 0, 0, 1, 0);
        }
        for (int at : new int[] {0, 63, 64, 255, 256, 65535}) {
            HouseWires x = opened();
            CHECK.yes("at " + at, x.peek(0, at, 12));
            says("at " + at, x, 66, 12, at / 256, at % 256);
        }
    }

    private static void peekOnlyIfOpen() {
        CHECK.by("An OPEN DEVICE");
        HouseWires x = house();
        CHECK.no("CLOSED", x.peek(0, 0, 1));
        x.connect(0, TWO);
        CHECK.no("JOINS", x.peek(0, 0, 1));
        x.step(1);
        CHECK.yes("OPEN", x.peek(0, 0, 1));
        CHECK.no("WAITS", x.peek(0, 0, 1));
        CHECK.due("one waits", x.count(11), 1);
    }

    private static void peekWithEight() {
        CHECK.by("with room in its OUT row");
        for (int i = 0; i < 2; i++) {
            HouseWires x = openedWith(7);
            CHECK.yes("with 7", i == 0 ? x.peek(0, 0, 1) : x.poke(0, 0, 1, 1));
            how("with 7", x, 2, ELSE, 0, 0, 0, 0, 0, 8);
            HouseWires y = openedWith(8);
            CHECK.no("with 8", i == 0 ? y.peek(0, 0, 1) : y.poke(0, 0, 1, 1));
            how("with 8", y, 1, ELSE, 0, 0, 0, 0, 1, 8);
            CHECK.due("not dropped", y.count(7), 0);
        }
    }

    private static void bytesToPoke() {
        CHECK.by("WRITE the lowest n bytes (1 to 4) of v, the highest of them first");
        for (int n : new int[] {0, -1, 5, 12, FAR[0], FAR[1]}) {
            HouseWires x = opened();
            CHECK.no("n " + n, x.poke(0, 0, n, 1));
            how("n " + n, x, 1, ELSE, 0, 0, 0, 0, 1, 0);
        }
        int[][] want = {{66, 129, 0, 0, 0x84}, {66, 130, 0, 0, 0x83, 0x84},
            {66, 131, 0, 0, 0x82, 0x83, 0x84}, {66, 132, 0, 0, 0x81, 0x82, 0x83, 0x84}};
        for (int n = 1; n <= 4; n++) {
            HouseWires x = opened();
            CHECK.yes("n " + n, x.poke(0, 0, n, 0x81828384));
            says("n " + n, x, want[n - 1]);
        }
    }

    private static void placesToPoke() {
        CHECK.by("Likewise");
        for (int at : new int[] {0, 63, 64, 255, 256, 65535}) {
            HouseWires x = opened();
            CHECK.yes("at " + at, x.poke(0, at, 1, -1));
            how("at " + at, x, 2, ELSE, 0, 0, 0, 0, 0, 1);
            says("at " + at, x, 66, 129, at / 256, at % 256, 255);
        }
    }

    private static void pokeOnlyIfOpen() {
        CHECK.by("Likewise");
        HouseWires x = house();
        CHECK.no("CLOSED", x.poke(0, 0, 1, 1));
        x.connect(0, TWO);
        CHECK.no("JOINS", x.poke(0, 0, 1, 1));
        x.step(1);
        CHECK.yes("OPEN", x.poke(0, 0, 1, 1));
        CHECK.no("WAITS", x.poke(0, 0, 1, 1));
        CHECK.due("one waits", x.count(11), 1);
    }

    private static void bytesOfMemory() {
        CHECK.by("Byte k of a DEVICE's MEMORY; NONE without one.");
        HouseWires x = house();
        for (int k = 0; k < 64; k++) {
            CHECK.due("at first", x.memory(0, k), 0);
        }
        for (int k : new int[] {-1, 64, FAR[0], FAR[1]}) {
            CHECK.due("byte " + k, x.memory(0, k), -1);
        }
    }

    private static void bytesToStore() {
        CHECK.by("Byte k of a DEVICE's MEMORY becomes v's lowest 8 bits.");
        HouseWires x = house();
        for (int k : new int[] {-1, 64, FAR[0], FAR[1]}) {
            CHECK.no("byte " + k, x.store(0, k, 7));
        }
        int[][] cases = {{0, 0}, {255, 255}, {256, 0}, {257, 1}, {-1, 255}, {-256, 0},
            {FAR[0], 0}, {FAR[1], 255}};
        for (int[] row : cases) {
            for (int k : new int[] {0, 63}) {
                CHECK.yes("store " + row[0], x.store(0, k, row[0]));
                CHECK.due("stored " + row[0], x.memory(0, k), row[1]);
            }
        }
        CHECK.due("no other byte", x.memory(0, 1) + x.memory(0, 62) + x.memory(1, 0), 0);
    }

    private static void repliesOfNone() {
        CHECK.by("NONE without one (also of none at all: for k NONE 0)");
        HouseWires x = house();
        CHECK.due("how many", x.reply(0, -1), 0);
        for (int k : new int[] {0, 1, 11, 12, -2, FAR[0], FAR[1]}) {
            CHECK.due("byte " + k, x.reply(0, k), -1);
        }
    }

    private static void bytesOfReplies() {
        CHECK.by("Byte k of the ANSWER that a DEVICE kept latest; how many it has for k NONE");
        for (int n : new int[] {1, 12}) {
            HouseWires x = opened();
            hear(x, order(0, 64 + n, 0, n));
            CHECK.due("how many", x.reply(0, -1), n);
            CHECK.due("first", x.reply(0, 0), 101);
            CHECK.due("last", x.reply(0, n - 1), 100 + n);
            for (int k : new int[] {n, 12, -2, FAR[0], FAR[1]}) {
                CHECK.due("byte " + k, x.reply(0, k), -1);
            }
        }
    }

    private static void replyOfAnEmptyAnswer() {
        CHECK.by("the ANSWER that a DEVICE kept latest");
        HouseWires x = opened();
        hear(x, order(0, 67, 0, 3));
        x.step(4);
        hear(x, order(1, 65, 0, 1));
        CHECK.due("a shorter one", x.reply(0, -1), 1);
        CHECK.due("no byte of the earlier one", x.reply(0, 1), -1);
        x.step(4);
        hear(x, order(2, 64, 0, 0));
        CHECK.due("an empty one", x.reply(0, -1), 0);
        CHECK.due("no byte", x.reply(0, 0), -1);
    }

    private static void whatIsTold() {
        CHECK.by("NONE for others");
        HouseWires x = opened();
        for (int what : new int[] {-1, 12, 13, FAR[0], FAR[1]}) {
            CHECK.due("connection " + what, x.connection(0, what), -1);
        }
        CHECK.due("LINKS, the last one", x.connection(0, 11), 0);
    }

    private static void toldIfClosed() {
        CHECK.by("1 PARTNER (NONE if CLOSED), (2, 3: 0 if CLOSED.)");
        HouseWires x = house();
        x.connect(0, TWO);
        x.step(1);
        x.poke(0, 0, 1, 1);
        x.step(2);
        hearFrom(x, TWO, order(0, 129, 0, 1));
        how("SENT and GOT are 1", x, 1, TWO, 1, 1);
        x.disconnect(0);
        how("CLOSED", x, 0, -1, 0, 0, 0, 0, 0);
    }

    private static void toldIfJoining() {
        CHECK.by("6 IDLE (0 unless OPEN, WAITS)");
        HouseWires x = opened();
        x.step(5);
        how("IDLE is 6", x, 1, ELSE, 0, 0, 0, 0, 6);
        hear(x, 129);
        x.connect(0, ELSE);
        how("JOINS", x, 3, ELSE, 0, 0, 0, 0, 0);
        x.step(3);
        how("JOINS still", x, 3, ELSE, 0, 0, 0, 0, 0);
    }

    private static void toldIfWaiting() {
        CHECK.by("4 TRIES, 5 PAUSE (4, 5: 0 unless it WAITS)");
        HouseWires x = opened();
        x.poke(0, 0, 1, 1);
        x.step(4);
        hear(x, 195);
        x.step(4);
        how("WAITS", x, 2, ELSE, 0, 0, 1, 5, 9);
        hear(x, 194);
        how("OPEN", x, 1, ELSE, 1, 0, 0, 0, 1);
    }

    private static void bytesToRead() {
        CHECK.by("second byte n (1 to 12), place (2), just these: READ");
        for (int n = 0; n <= 63; n++) {
            HouseWires x = opened();
            CHECK.due("ACK", hear(x, order(0, n, 0, 0)), 1);
            boolean isRead = n >= 1 && n <= 12;
            how("n " + n, x, isRead ? 2 : 1, ELSE, 0, 1, 0, isRead ? 1 : 0, 1, isRead ? 2 : 1);
        }
        for (int more : new int[] {-1, 1, 12}) {
            HouseWires x = opened();
            hear(x, java.util.Arrays.copyOf(order(0, 1, 0, 0), 4 + more));
            how("not just these", x, 1, ELSE, 0, 1, 0, 0, 1, 1);
        }
    }

    private static void endOfMemoryRead() {
        CHECK.by("if place + n is above 64, second byte 64, place");
        int[][] cases = {{0, 1, 1}, {63, 1, 1}, {64, 1, 0}, {62, 2, 1}, {63, 2, 0}, {52, 12, 1},
            {53, 12, 0}, {0, 12, 1}, {256, 1, 0}, {319, 1, 0}, {65535, 12, 0}, {65535, 1, 0}};
        for (int[] row : cases) {
            HouseWires x = opened();
            for (int k = 0; k < 64; k++) {
                x.store(0, k, 100 + k);
            }
            hear(x, order(0, row[1], row[0], 0));
            x.step(4);
            int[] want = new int[row[2] == 1 ? 4 + row[1] : 4];
            want[0] = 66;
            want[1] = 64 + (row[2] == 1 ? row[1] : 0);
            want[2] = row[0] / 256;
            want[3] = row[0] % 256;
            for (int i = 4; i < want.length; i++) {
                want[i] = 100 + row[0] + i - 4;
            }
            says(row[1] + " from " + row[0], x, want);
        }
    }

    private static void bytesToWrite() {
        CHECK.by("second byte 128 + n, place (2), n bytes, just these: WRITE");
        for (int second = 128; second < 256; second++) {
            int n = second - 128;
            HouseWires x = opened();
            CHECK.due("ACK", hear(x, order(0, second, 0, Math.min(n, 12))), 1);
            boolean isWrite = n >= 1 && n <= 12;
            for (int k = 0; k < 13; k++) {
                CHECK.due("n " + n + ", byte " + k, x.memory(0, k),
                        isWrite && k < n ? 101 + k : 0);
            }
            how("no ANSWER", x, 1, ELSE, 0, 1, 0, 0, 1, 1);
        }
        for (int n = 1; n <= 12; n++) {
            for (int bytes : new int[] {n - 1, n + 1}) {
                if (bytes <= 12) {
                    HouseWires x = opened();
                    hear(x, order(0, 128 + n, 0, bytes));
                    CHECK.due(n + " told, " + bytes + " there", x.memory(0, 0), 0);
                }
            }
        }
    }

    private static void endOfMemoryWritten() {
        CHECK.by("these bytes come there; nothing, if place + n is above 64");
        int[][] cases = {{63, 1, 1}, {64, 1, 0}, {62, 2, 1}, {63, 2, 0}, {52, 12, 1}, {53, 12, 0},
            {256, 1, 0}, {65535, 1, 0}, {65535, 12, 0}};
        for (int[] row : cases) {
            HouseWires x = opened();
            hear(x, order(0, 128 + row[1], row[0], row[1]));
            for (int k = 0; k < 64; k++) {
                boolean isThere = row[2] == 1 && k >= row[0] && k < row[0] + row[1];
                CHECK.due(row[1] + " to " + row[0] + ", byte " + k, x.memory(0, k),
                        isThere ? 101 + k - row[0] : 0);
            }
        }
    }

    private static void answersThatAreKept() {
        CHECK.by("An ANSWER that comes (second byte 64 to 76, place, as many bytes as told)");
        for (int second = 64; second < 128; second++) {
            int n = second - 64;
            HouseWires x = opened();
            hear(x, order(0, 65, 0, 1));
            x.step(4);
            hear(x, order(1, second, 65535, Math.min(n, 12)));
            CHECK.due("second byte " + second, x.reply(0, -1), n <= 12 ? n : 1);
        }
        for (int n = 0; n <= 12; n++) {
            for (int bytes : new int[] {n - 1, n + 1}) {
                if (bytes >= 0 && bytes <= 12) {
                    HouseWires x = opened();
                    hear(x, order(0, 65, 0, 1));
                    x.step(4);
                    hear(x, order(1, 64 + n, 0, bytes));
                    CHECK.due(n + " told, " + bytes + " there", x.reply(0, -1), 1);
                }
            }
        }
    }

    private static void otherOrders() {
        CHECK.by("Others do nothing.");
        for (int length = 2; length <= 3; length++) {
            for (int second : new int[] {0, 1, 12, 64, 65, 128, 129, 192, 255}) {
                HouseWires x = opened();
                hear(x, java.util.Arrays.copyOf(order(0, second, 0, 0), length));
                how("second byte " + second, x, 1, ELSE, 0, 1, 0, 0, 1, 1);
                CHECK.due("memory", x.memory(0, 0), 0);
                CHECK.due("answer", x.reply(0, -1), 0);
            }
        }
    }

    private static void orderByTheFirstByte() {
        CHECK.by("(if the first byte is 66 + 4 s) what it tells (4) is done");
        for (int first = 64; first < 68; first++) {
            HouseWires x = opened();
            int[] pdu = order(0, 129, 0, 1);
            pdu[0] = first;
            hear(x, pdu);
            how("first byte " + first, x, 1, ELSE, 0, 1, 0, 0, 1, 1);
            CHECK.due("first byte " + first, x.memory(0, 0), first == 66 ? 101 : 0);
            says("first byte " + first, x, 194);
        }
    }

    private static void opensAndCloses() {
        CHECK.by("PDU: 128 OPENS, 129 CLOSES (one byte each)");
        for (int first = 0; first < 256; first++) {
            HouseWires x = house();
            CHECK.due("ACK", hear(x, first), 1);
            how("CLOSED, " + first, x, first == 128 ? 1 : 0);
            CHECK.due("nothing is sent", x.count(11), 0);
            boolean isTakes = first >= 194 && first % 4 >= 2;
            HouseWires y = opened();
            CHECK.due("ACK", hear(y, first), 1);
            how("OPEN, " + first, y, first == 129 || isTakes ? 0 : 1);
            CHECK.due("a CLOSES for TAKES and REFUSES", y.count(11), isTakes ? 1 : 0);
        }
        for (int first : new int[] {128, 129, 194, 195}) {
            HouseWires x = opened();
            hearFrom(x, ELSE, first, 0);
            how("two bytes, " + first, x, 1, ELSE, 0, 0, 0, 0, 2, 0);
            HouseWires y = house();
            hear(y, first, 0);
            how("two bytes, " + first, y, 0, -1, 0, 0, 0, 0, 0, 0);
        }
    }

    private static void takesAndRefusesOfEachNumber() {
        CHECK.by("194 + 4 s TAKES s, 195 + 4 s REFUSES s (one byte each, s 0 to 15)");
        for (int s = 0; s < 16; s++) {
            HouseWires x = opened();
            x.poke(0, 0, 1, 1);
            x.step(4);
            hear(x, 194 + 4 * s);
            how("TAKES " + s, x, s == 0 ? 1 : 0, s == 0 ? ELSE : -1, s == 0 ? 1 : 0);
            HouseWires y = opened();
            y.poke(0, 0, 1, 1);
            y.step(4);
            hear(y, 195 + 4 * s);
            how("REFUSES " + s, y, s == 0 ? 2 : 0, s == 0 ? ELSE : -1, 0, 0, s == 0 ? 1 : 0);
        }
    }

    private static void takesOfOthers() {
        CHECK.by("TAKES s, from the PARTNER (of others: nothing)");
        for (int s = 0; s < 16; s++) {
            HouseWires x = opened();
            x.poke(0, 0, 1, 1);
            x.step(4);
            hearFrom(x, 0x0808, 194 + 4 * s);
            hearFrom(x, 0x0908, 195 + 4 * s);
            hearFrom(x, 0x0809, 195 + 4 * s);
            how("WAITS, s " + s, x, 2, ELSE, 0, 0, 0, 7, 7, 0);
            HouseWires y = opened();
            hearFrom(y, 0x0808, 194 + 4 * s);
            hearFrom(y, 0x0808, 195 + 4 * s);
            how("OPEN, s " + s, y, 1, ELSE, 0, 0, 0, 0, 3, 0);
        }
    }

    private static void takesWhileItJoins() {
        CHECK.by("(CLOSED or JOINS: TAKES and REFUSES do nothing.)");
        for (int s = 0; s < 16; s++) {
            HouseWires x = house();
            x.connect(0, ELSE);
            for (int first = 194; first <= 195; first++) {
                int[] bytes = Wire.telegram(144, ELSE, ONE, 96, first + 4 * s);
                Wire.send(x, 0, bytes);
                x.step(1);
                CHECK.due("ACK", x.count(9), 1);
            }
            how("JOINS, s " + s, x, 3, ELSE, 0, 0, 0, 0, 0, 1);
            HouseWires y = house();
            hear(y, 194 + 4 * s);
            hear(y, 195 + 4 * s);
            how("CLOSED, s " + s, y, 0, -1, 0, 0, 0, 0, 0, 0);
        }
    }

    private static void dataOfEachFirstByte() {
        CHECK.by("two bytes at least, the first one 64 + 4 s to 67 + 4 s: DATA s");
        for (int first = 0; first < 256; first++) {
            HouseWires x = opened();
            CHECK.due("ACK", hear(x, first, 0), 1);
            boolean isData = first >= 64 && first < 128;
            int s = first / 4 % 16;
            how("first byte " + first, x, 1, ELSE, 0, isData && s == 0 ? 1 : 0, 0, 0,
                    isData ? 1 : 2, isData ? 1 : 0);
            if (isData) {
                // GOT is 0, so that 0 is the next one and 15 the one before.
                says("first byte " + first, x, (s == 0 || s == 15 ? 194 : 195) + 4 * s);
            }
        }
    }

    private static void dataOfOneByte() {
        CHECK.by("two bytes at least");
        for (int first = 64; first < 128; first++) {
            HouseWires x = opened();
            CHECK.due("ACK", hear(x, first), 1);
            how("one byte, " + first, x, 1, ELSE, 0, 0, 0, 0, 2, 0);
            HouseWires y = house();
            hear(y, first);
            CHECK.due("nor a CLOSES", y.count(11), 0);
        }
    }

    private static void numbersGoRound() {
        CHECK.by("SENT and GOT numbers (0 to 15, they go round)");
        HouseWires x = opened();
        for (int i = 0; i < 18; i++) {
            int s = i % 16;
            x.poke(0, 0, 1, i);
            CHECK.due("SENT", x.connection(0, 2), s);
            x.step(1);
            CHECK.due("DATA", x.sent(6), 66 + 4 * s);
            x.step(3);
            hear(x, 194 + 4 * s);
            how("taken", x, 1, ELSE, (s + 1) % 16);
        }
    }

    private static void gotGoesRound() {
        CHECK.by("s is GOT less one: a TAKES s");
        HouseWires x = opened();
        for (int i = 0; i < 18; i++) {
            int s = i % 16;
            hear(x, order(s, 129, i, 1));
            how("the next one", x, 1, ELSE, 0, (s + 1) % 16);
            CHECK.due("written", x.memory(0, i), 101);
            x.step(4);
            hear(x, order(s, 129, i + 20, 1));
            how("the one before", x, 1, ELSE, 0, (s + 1) % 16);
            CHECK.due("not written", x.memory(0, i + 20), 0);
            x.step(1);
            CHECK.due("a TAKES", x.sent(6), 194 + 4 * s);
            x.step(3);
        }
        hear(x, 64 + 4 * 3, 0);
        x.step(1);
        CHECK.due("GOT and one: a REFUSES", x.sent(6), 195 + 4 * 3);
    }

    private static void answersGoRound() {
        CHECK.by("DATA are sent with SENT as s");
        HouseWires x = house();
        x.connect(0, TWO);
        x.step(1);
        x.store(1, 5, 55);
        for (int i = 0; i < 17; i++) {
            x.store(1, 5, 55 + i);
            CHECK.yes("peek", x.peek(0, 5, 1));
            x.step(4);
            CHECK.due("answered", x.reply(0, 0), 55 + i);
            CHECK.due("SENT of both", x.connection(0, 2) + 16 * x.connection(1, 2),
                    17 * ((i + 1) % 16));
            CHECK.due("GOT of both", x.connection(0, 3) + 16 * x.connection(1, 3),
                    17 * ((i + 1) % 16));
        }
    }

    private static void triesUpToThree() {
        CHECK.by("AGAIN: TRIES 3: it CLOSES; else TRIES is one more, PAUSE 0");
        HouseWires x = opened();
        x.poke(0, 0, 1, 7);
        x.step(4);
        for (int tries = 1; tries <= 3; tries++) {
            x.step(2);
            hear(x, 195);
            how("AGAIN", x, 2, ELSE, 0, 0, tries, 1);
            says("the same", x, 66, 129, 0, 0, 7);
        }
        hear(x, 195);
        how("a fourth time", x, 0, -1, 0, 0, 0, 0, 0, 1);
        says("CLOSES", x, 129);
        CHECK.due("nothing more", x.step(99), 0);
    }

    private static void pauseOfThirty() {
        CHECK.by("WAITS: PAUSE one more; if it is 30: AGAIN");
        HouseWires x = opened();
        x.poke(0, 0, 1, 7);
        how("at first", x, 2, ELSE, 0, 0, 0, 0);
        x.step(29);
        how("29", x, 2, ELSE, 0, 0, 0, 29, 29, 0);
        x.step(1);
        how("30", x, 2, ELSE, 0, 0, 1, 0, 30, 1);
        HouseWires y = opened();
        y.poke(0, 0, 1, 7);
        y.step(29);
        hear(y, 194);
        how("taken in the 30th step", y, 1, ELSE, 1, 0, 0, 0, 1, 0);
    }

    private static void idleOfSixty() {
        CHECK.by("OPEN or WAITS: IDLE one more; if it is 60: it CLOSES");
        HouseWires x = opened();
        how("at first", x, 1, ELSE, 0, 0, 0, 0, 1);
        x.step(58);
        how("59", x, 1, ELSE, 0, 0, 0, 0, 59, 0);
        x.step(1);
        how("60", x, 0, -1, 0, 0, 0, 0, 0, 1);
        says("CLOSES", x, 129);
        HouseWires y = opened();
        y.step(58);
        CHECK.yes("peek at 59", y.peek(0, 0, 1));
        y.step(1);
        how("from 0 on", y, 2, ELSE, 0, 0, 0, 1, 1);
    }

    private static void idleOfSixtyWhileItWaits() {
        CHECK.by("OPEN or WAITS: IDLE one more; if it is 60: it CLOSES");
        HouseWires x = opened();
        x.poke(0, 0, 1, 7);
        x.step(20);
        hear(x, 195);
        how("PAUSE from 0 on, IDLE not", x, 2, ELSE, 0, 0, 1, 1, 21);
        x.step(28);
        hear(x, 195);
        how("PAUSE from 0 on, IDLE not", x, 2, ELSE, 0, 0, 2, 1, 50);
        x.step(9);
        how("59", x, 2, ELSE, 0, 0, 2, 10, 59);
        x.step(1);
        how("60", x, 0, -1, 0, 0, 0, 0, 0, 1);
    }

    private static void againAndIdleAtOnce() {
        CHECK.by("PAUSE one more; if it is 30: AGAIN. OPEN or WAITS: IDLE one more; if it is 60");
        HouseWires x = opened();
        x.poke(0, 0, 1, 7);
        x.step(59);
        how("59", x, 2, ELSE, 0, 0, 1, 29, 59, 0);
        x.step(1);
        how("both: the DATA, then a CLOSES", x, 0, -1, 0, 0, 0, 0, 0, 2);
        says("DATA", x, 66, 129, 0, 0, 7);
        says("CLOSES", x, 129);
    }

    private static void idleFromZero() {
        CHECK.by("IDLE 0");
        int[][] pdus = {{66, 129, 0, 0, 1}, {66 + 60, 0}, {66 + 20, 0}};
        for (int[] pdu : pdus) {
            HouseWires x = opened();
            x.step(58);
            hear(x, pdu);
            how("DATA " + pdu[0], x, 1, ELSE, 0, pdu[0] == 66 ? 1 : 0, 0, 0, 1, 1);
        }
        HouseWires y = opened();
        y.step(58);
        hearFrom(y, 0x0808, 66, 0);
        how("DATA of another one", y, 0, -1, 0, 0, 0, 0, 0, 2);
        HouseWires z = opened();
        z.step(58);
        hear(z, 0);
        how("other PDUS", z, 0, -1, 0, 0, 0, 0, 0, 1);
    }

    private static void triesFromZero() {
        CHECK.by("it WAITS, TRIES 0, PAUSE 0, IDLE 0");
        HouseWires x = opened();
        x.poke(0, 0, 1, 7);
        x.step(4);
        hear(x, 195);
        x.step(4);
        hear(x, 194);
        how("taken", x, 1, ELSE, 1, 0, 0, 0, 1, 0);
        x.poke(0, 0, 1, 7);
        how("the next DATA", x, 2, ELSE, 1, 0, 0, 0, 0, 1);
        x.step(4);
        for (int tries = 1; tries <= 3; tries++) {
            hear(x, 195 + 4);
            how("AGAIN", x, 2, ELSE, 1, 0, tries);
            x.step(4);
        }
    }

    private static void dataOfOthers() {
        CHECK.by("CLOSED, or x is not the PARTNER, or it JOINS: a CLOSES to x");
        HouseWires x = house();
        hear(x, order(0, 129, 0, 1));
        how("CLOSED", x, 0, -1, 0, 0, 0, 0, 0, 1);
        CHECK.due("not done", x.memory(0, 0), 0);
        says("CLOSES", x, 129);
        HouseWires y = opened();
        hearFrom(y, 0x0808, order(0, 129, 0, 1));
        how("not the PARTNER", y, 1, ELSE, 0, 0, 0, 0, 2, 1);
        CHECK.due("not done", y.memory(0, 0), 0);
        y.step(1);
        CHECK.sent("CLOSES", y, Wire.toAddress(ONE, 0x0808, 129));
        HouseWires z = house();
        z.connect(0, ELSE);
        Wire.send(z, 0, Wire.telegram(Wire.NEW_SYSTEM - 32, ELSE, ONE, 96, 66, 129, 0, 0, 9));
        z.step(1);
        how("it JOINS", z, 3, ELSE, 0, 0, 0, 0, 0, 2);
        CHECK.due("not done", z.memory(0, 0), 0);
    }

    private static void againWithEight() {
        CHECK.by("that TELEGRAM comes into the OUT row again");
        HouseWires x = opened();
        x.poke(0, 0, 1, 7);
        x.step(29);
        fillRow(x, 8);
        x.step(1);
        how("DROPPED", x, 2, ELSE, 0, 0, 1, 0, 30, 8);
        CHECK.due("DROPPED", x.count(7), 1);
        HouseWires y = opened();
        y.poke(0, 0, 1, 7);
        y.step(29);
        fillRow(y, 7);
        y.step(1);
        how("the eighth", y, 2, ELSE, 0, 0, 1, 0, 30, 8);
        CHECK.due("not DROPPED", y.count(7), 0);
    }

    private static void idleWithEight() {
        CHECK.by("To CLOSE: a CLOSES to the PARTNER comes into the OUT row, it is CLOSED.");
        HouseWires x = opened();
        x.step(58);
        fillRow(x, 8);
        x.step(1);
        how("DROPPED", x, 0, -1, 0, 0, 0, 0, 0, 8);
        CHECK.due("DROPPED", x.count(7), 1);
    }

    private static void answerWithSeven() {
        CHECK.by("an ANSWER is sent as DATA if the DEVICE is OPEN, else not");
        HouseWires x = openedWith(6);
        CHECK.due("with 6", hear(x, order(0, 1, 0, 0)), 1);
        how("with 6", x, 2, ELSE, 0, 1, 0, 1, 1, 8);
        CHECK.due("none is DROPPED", x.count(7), 0);
        HouseWires y = openedWith(7);
        CHECK.due("with 7", hear(y, order(0, 1, 0, 0)), 1);
        how("with 7: TAKES, and the ANSWER is DROPPED", y, 2, ELSE, 0, 1, 0, 1, 1, 8);
        CHECK.due("one is DROPPED", y.count(7), 1);
        HouseWires z = openedWith(8);
        CHECK.due("with 8: BUSY", hear(z, order(0, 1, 0, 0)), 3);
        how("with 8", z, 1, ELSE, 0, 0, 0, 0, 2, 8);
        HouseWires w = opened();
        w.poke(0, 0, 1, 1);
        w.step(4);
        hear(w, order(0, 1, 0, 0));
        how("WAITS: TAKES alone", w, 2, ELSE, 0, 1, 0, 5, 1, 1);
    }

    private static void closesWithSeven() {
        CHECK.by("else, if x is not the PARTNER, a CLOSES to x");
        HouseWires x = openedWith(7);
        CHECK.due("with 7", hearFrom(x, 0x0808, 128), 1);
        how("with 7", x, 1, ELSE, 0, 0, 0, 0, 2, 8);
        CHECK.due("with 8: BUSY", hearFrom(x, 0x0808, 128), 3);
        CHECK.due("none is DROPPED", x.count(7), 0);
    }

    private static void openedAfterClosing() {
        CHECK.by("CLOSED: it is OPEN, PARTNER x, SENT, GOT 0");
        HouseWires x = opened();
        x.poke(0, 0, 1, 1);
        x.step(4);
        hear(x, 194);
        hear(x, order(0, 129, 0, 1));
        x.step(4);
        how("SENT and GOT are 1", x, 1, ELSE, 1, 1);
        hear(x, 129);
        hearFrom(x, 0x0808, 128);
        how("from 0 on", x, 1, 0x0808, 0, 0, 0, 0, 1, 0);
        hearFrom(x, 0, 128);
        how("of address 0", x, 1, 0x0808, 0, 0, 0, 0, 2, 1);
        HouseWires y = house();
        hearFrom(y, 65535, 128);
        how("of address 65535", y, 1, 65535, 0, 0, 0, 0, 1, 0);
    }

    private static void joinsTillLost() {
        CHECK.by("LOST (or DROPPED): CLOSED");
        HouseWires x = house();
        x.connect(0, ELSE);
        x.step(3);
        how("SENT three times", x, 3, ELSE, 0, 0, 0, 0, 0, 1);
        x.step(1);
        how("SENT four times", x, 0, -1, 0, 0, 0, 0, 0, 0);
        CHECK.due("LOST", x.count(6), 1);
        CHECK.due("no CLOSES", x.step(9), 0);
    }

    private static void joinsTillDoneTheFourthTime() {
        CHECK.by("A JOINING DEVICE's OPENS that is DONE: it is OPEN, IDLE 0");
        HouseWires x = house();
        x.busy(1, 3);
        x.connect(0, TWO);
        x.step(3);
        how("BUSY three times", x, 3, TWO, 0, 0, 0, 0, 0, 1);
        x.step(1);
        how("DONE", x, 1, TWO, 0, 0, 0, 0, 1, 0);
        HouseWires y = house();
        y.busy(1, 4);
        y.connect(0, TWO);
        y.step(4);
        how("BUSY four times", y, 0, -1);
        CHECK.due("the other one", y.connection(1, 0), 0);
    }

    private static void opensOfAnEarlierConnection() {
        CHECK.by("(That of an earlier connection does nothing: it must be the one told latest.)");
        HouseWires x = house();
        x.connect(0, TWO);
        x.disconnect(0);
        x.connect(0, TWO);
        x.step(1);
        how("the earlier one is DONE", x, 3, TWO, 0, 0, 0, 0, 0, 2);
        x.step(2);
        how("the latest one is DONE", x, 1, TWO, 0, 0, 0, 0, 1, 0);
        HouseWires y = house();
        y.connect(0, ELSE);
        y.disconnect(0);
        y.connect(0, ELSE);
        y.step(4);
        how("the earlier one is LOST", y, 3, ELSE, 0, 0, 0, 0, 0, 2);
        y.step(7);
        how("SENT three times", y, 3, ELSE, 0, 0, 0, 0, 0, 1);
        y.step(1);
        how("the latest one is LOST", y, 0, -1);
    }

    private static void closedWhileJoining() {
        CHECK.by("CLOSES: from the PARTNER: it is CLOSED; else nothing");
        HouseWires x = house();
        x.connect(0, TWO);
        Wire.send(x, 0, Wire.telegram(Wire.NEW_SYSTEM - 32, 0x0808, ONE, 96, 129));
        x.step(1);
        how("of another one", x, 3, TWO);
        HouseWires y = house();
        y.connect(0, TWO);
        Wire.send(y, 0, Wire.telegram(Wire.NEW_SYSTEM - 32, TWO, ONE, 96, 129));
        y.step(1);
        how("of the PARTNER", y, 0, -1, 0, 0, 0, 0, 0, 1);
        y.step(1);
        how("DONE, but it JOINS no more", y, 0, -1, 0, 0, 0, 0, 0, 0);
        hear(y, 129);
        how("CLOSED already", y, 0, -1, 0, 0, 0, 0, 0, 0);
    }

    private static void telegramsBesideAnOpens() {
        CHECK.by("A JOINING DEVICE's OPENS that is DONE: it is OPEN");
        HouseWires x = house();
        x.object(0, 0, 31, 1);
        x.object(1, 0, 31, 1);
        x.link(0, 0, 5);
        x.link(1, 0, 5);
        x.set(0, 0, 1);
        x.connect(0, TWO);
        x.set(0, 0, 0);
        x.step(1);
        CHECK.due("one ahead of it is DONE", x.count(5), 1);
        how("JOINS still", x, 3, TWO);
        x.step(1);
        how("OPEN", x, 1, TWO);
        HouseWires y = house();
        fillRow(y, 1);
        y.connect(0, TWO);
        y.step(4);
        CHECK.due("one ahead of it is LOST", y.count(6), 1);
        how("JOINS still", y, 3, TWO);
        y.step(1);
        how("OPEN", y, 1, TWO);
    }
}

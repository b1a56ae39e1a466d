/** Promises 16 to 23: connections, memories, and what is read and written over them. */
public final class ConnectionsTest {
    private static final Check CHECK = new Check("ConnectionsTest");
    private static final int ONE = 257;
    private static final int TWO = 258;
    private static final int ELSE = 0x0909;

    public static void main(String[] args) {
        joining();
        joiningNobody();
        joiningTwice();
        disconnecting();
        closingWithFullRow();
        beingOpened();
        beingClosed();
        dataOfStrangers();
        numbersOfData();
        ordersThatDoNothing();
        memories();
        reading();
        readingWhileWaiting();
        writing();
        replies();
        takesAndRefuses();
        sendingAgain();
        pauses();
        idling();
        numbersGoRound();
        otherPdus();
        whatIsTold();
        CHECK.end();
    }

    private static HouseWires house() {
        HouseWires x = new HouseWires();
        x.line(1);
        x.device(0, 1);
        x.device(0, 2);
        return x;
    }

    /** Device 0 is OPEN with ELSE, at which there is nobody but the tester. */
    private static HouseWires opened() {
        HouseWires x = house();
        hear(x, 128);
        return x;
    }

    /** Device 0 hears a PDU from ELSE. */
    private static void hear(HouseWires x, int... pdu) {
        hearFrom(x, ELSE, pdu);
    }

    private static void hearFrom(HouseWires x, int source, int... pdu) {
        Wire.send(x, 0, Wire.toAddress(source, ONE, pdu));
        x.step(1);
    }

    /** What a device's next telegram is, to whom: goal, then the PDU. */
    private static void says(String what, HouseWires x, int goal, int... pdu) {
        x.step(1);
        int[] want = Wire.toAddress(ONE, goal, pdu);
        if (x.sent(0) != want[0]) {
            want = Wire.telegram(Wire.NEW_SYSTEM - 32, ONE, goal, 96, pdu);
        }
        CHECK.sent(what, x, want);
    }

    private static void how(String what, HouseWires x, int... want) {
        for (int i = 0; i < want.length; i++) {
            CHECK.due(what + ", connection " + i, x.connection(0, i), want[i]);
        }
    }

    private static void joining() {
        HouseWires x = house();
        CHECK.no("16 no device", x.connect(2, 1));
        CHECK.no("16 no device", x.connect(-1, 1));
        CHECK.no("16 below", x.connect(0, -1));
        CHECK.no("16 above", x.connect(0, 65536));
        how("16 closed", x, 0, -1, 0, 0, 0, 0, 0, 0);
        CHECK.yes("16 joins", x.connect(0, TWO));
        how("16 joins", x, 3, TWO, 0, 0, 0, 0, 0, 1);
        CHECK.no("16 not closed", x.connect(0, TWO));
        CHECK.no("18 joins", x.peek(0, 0, 1));
        x.step(1);
        CHECK.sent("16 OPENS", x, Wire.toAddress(ONE, TWO, 128));
        how("5 open", x, 1, TWO, 0, 0, 0, 0, 1, 0);
        CHECK.due("5 the other one too", x.connection(1, 0), 1);
        CHECK.due("5 its partner", x.connection(1, 1), ONE);
        CHECK.due("5 its idle", x.connection(1, 6), 1);
        CHECK.no("16 open", x.connect(0, TWO));
        HouseWires y = house();
        CHECK.yes("16 least", y.connect(0, 0));
        CHECK.yes("16 most", y.connect(1, 65535));
    }

    private static void joiningNobody() {
        HouseWires x = house();
        x.connect(0, ELSE);
        x.step(3);
        how("5 still joins", x, 3, ELSE, 0, 0, 0, 0, 0, 1);
        x.step(1);
        how("5 lost", x, 0, -1, 0, 0, 0, 0, 0, 0);
        CHECK.due("5 lost", x.count(6), 1);
        CHECK.due("5 no CLOSES", x.step(5), 0);
    }

    private static void joiningTwice() {
        HouseWires x = house();
        x.connect(0, TWO);
        x.disconnect(0);
        x.connect(0, ELSE);
        CHECK.due("5 OPENS, CLOSES, OPENS", x.connection(0, 7), 3);
        x.step(1);
        how("5 the earlier OPENS does nothing", x, 3, ELSE);
        x.step(1);
        how("5 CLOSES neither", x, 3, ELSE);
        CHECK.due("5 the other one is closed again", x.connection(1, 0), 0);
        x.step(4);
        how("5 the latest one is lost", x, 0, -1);
        HouseWires y = house();
        y.connect(0, ELSE);
        y.disconnect(0);
        y.connect(0, TWO);
        y.step(8);
        how("5 an earlier one that is lost does nothing", y, 3, TWO);
        y.step(1);
        how("5 the latest one is done", y, 1, TWO);
    }

    private static void disconnecting() {
        HouseWires x = house();
        CHECK.no("17 closed", x.disconnect(0));
        CHECK.no("17 no device", x.disconnect(2));
        CHECK.no("17 no device", x.disconnect(-1));
        CHECK.due("17 nothing waits", x.count(11), 0);
        x.connect(0, TWO);
        x.step(1);
        x.peek(0, 0, 1);
        x.step(1);
        how("17 waits", x, 2, TWO);
        CHECK.yes("17 waits", x.disconnect(0));
        how("17 closed", x, 0, -1, 0, 0, 0, 0, 0, 1);
        CHECK.yes("17 the other one waits too", x.disconnect(1));
        CHECK.due("17 TAKES, ANSWER, CLOSES", x.connection(1, 7), 3);
        HouseWires y = opened();
        CHECK.yes("17 open", y.disconnect(0));
        how("17 closed", y, 0, -1, 0, 0, 0, 0, 0, 1);
        says("17 CLOSES", y, ELSE, 129);
    }

    private static void closingWithFullRow() {
        HouseWires x = opened();
        x.object(0, 0, 31, 3);
        x.link(0, 0, 5);
        for (int i = 0; i < 8; i++) {
            x.set(0, 0, i);
        }
        CHECK.no("18 no room", x.peek(0, 0, 1));
        CHECK.no("19 no room", x.poke(0, 0, 1, 1));
        how("18 no room", x, 1, ELSE, 0, 0, 0, 0, 1, 8);
        CHECK.yes("17 full", x.disconnect(0));
        how("17 closed all the same", x, 0, -1, 0, 0, 0, 0, 0, 8);
        CHECK.due("17 dropped", x.count(7), 1);
        CHECK.no("16 no room", x.connect(0, TWO));
        how("16 no room", x, 0);
        CHECK.due("16 nothing is dropped", x.count(7), 1);
    }

    private static void beingOpened() {
        HouseWires x = opened();
        how("5 opened", x, 1, ELSE, 0, 0, 0, 0, 1, 0);
        hear(x, 128);
        how("5 again, of the partner", x, 1, ELSE, 0, 0, 0, 0, 2, 0);
        hearFrom(x, 0x0808, 128);
        how("5 of another one", x, 1, ELSE, 0, 0, 0, 0, 3, 1);
        says("5 CLOSES to that one", x, 0x0808, 129);
        HouseWires y = house();
        y.connect(0, ELSE);
        Wire.send(y, 0, Wire.telegram(Wire.NEW_SYSTEM - 32, ELSE, ONE, 96, 128));
        y.step(1);
        how("5 joins, of the partner: nothing", y, 3, ELSE, 0, 0, 0, 0, 0, 1);
        hearFrom(y, 0x0800, 128);
        how("5 joins, of another one: a CLOSES", y, 3, ELSE, 0, 0, 0, 0, 0, 2);
    }

    private static void beingClosed() {
        HouseWires x = opened();
        hearFrom(x, 0x0808, 129);
        how("5 CLOSES of another one", x, 1, ELSE, 0, 0, 0, 0, 2, 0);
        hear(x, 129);
        how("5 CLOSES of the partner", x, 0, -1, 0, 0, 0, 0, 0, 0);
        hear(x, 129);
        how("5 closed already", x, 0, -1, 0, 0, 0, 0, 0, 0);
        hear(x, 128);
        how("5 idle from 0 on", x, 1, ELSE, 0, 0, 0, 0, 1, 0);
        HouseWires y = house();
        y.connect(0, TWO);
        Wire.send(y, 0, Wire.telegram(Wire.NEW_SYSTEM - 32, TWO, ONE, 96, 129));
        y.step(1);
        how("5 joins, of the partner", y, 0, -1);
        y.step(1);
        how("5 its OPENS is done, but it is closed", y, 0, -1);
        CHECK.due("5 the other one is open", y.connection(1, 0), 1);
    }

    private static void dataOfStrangers() {
        HouseWires x = house();
        hear(x, 66, 129, 0, 3, 9);
        says("5 DATA to a closed one", x, ELSE, 129);
        CHECK.due("5 not done", x.memory(0, 3), 0);
        x.step(3);
        hear(x, 128);
        hearFrom(x, 0x0808, 66, 129, 0, 3, 9);
        how("5 DATA of another one", x, 1, ELSE, 0, 0);
        says("5 DATA of another one", x, 0x0808, 129);
        CHECK.due("5 not done", x.memory(0, 3), 0);
        HouseWires y = house();
        y.connect(0, ELSE);
        Wire.send(y, 0, Wire.telegram(Wire.NEW_SYSTEM - 32, ELSE, ONE, 96, 66, 129, 0, 3, 9));
        y.step(1);
        how("5 DATA to one that joins", y, 3, ELSE, 0, 0, 0, 0, 0, 2);
        y.step(5);
        CHECK.due("5 a CLOSES to it", y.sent(6), 129);
        CHECK.due("5 not done", y.memory(0, 3), 0);
    }

    private static void numbersOfData() {
        HouseWires x = opened();
        x.step(4);
        hear(x, 66, 129, 0, 3, 9);
        how("5 DATA that are next", x, 1, ELSE, 0, 1, 0, 0, 1, 1);
        CHECK.due("5 done", x.memory(0, 3), 9);
        says("5 TAKES 0", x, ELSE, 194);
        x.step(3);
        hear(x, 66, 129, 0, 3, 8);
        how("5 the latest ones again", x, 1, ELSE, 0, 1, 0, 0, 1, 1);
        CHECK.due("5 not done again", x.memory(0, 3), 9);
        says("5 TAKES 0 again", x, ELSE, 194);
        x.step(3);
        hear(x, 66 + 8, 129, 0, 3, 8);
        how("5 others", x, 1, ELSE, 0, 1, 0, 0, 1, 1);
        CHECK.due("5 not done", x.memory(0, 3), 9);
        says("5 REFUSES 2", x, ELSE, 195 + 8);
        x.step(3);
        HouseWires y = opened();
        hear(y, 66 + 60, 129, 0, 3, 8);
        says("5 15 is one less than 0", y, ELSE, 194 + 60);
        y.step(3);
        hear(y, 64, 129, 0, 3, 8);
        how("5 DATA that are no order", y, 1, ELSE, 0, 1);
        says("5 DATA that are no order", y, ELSE, 194);
        CHECK.due("5 not done", y.memory(0, 3), 0);
    }

    private static void ordersThatDoNothing() {
        int[][] orders = {
            {66, 0, 0, 0}, {66, 13, 0, 0}, {66, 1, 0}, {66, 1, 0, 0, 0}, {66, 128, 0, 3},
            {66, 129, 0, 3}, {66, 129, 0, 3, 9, 9}, {66, 130, 0, 3, 9}, {66, 77, 0, 0},
            {66, 65, 0, 0}, {66, 64, 0, 0, 1}, {66, 192, 0, 0}, {66, 193, 0, 3, 9}, {66, 1},
            {64, 1, 0, 0}, {65, 1, 0, 0}, {67, 129, 0, 3, 9}, {67, 65, 0, 0, 1},
            {66, 129, 0, 64, 9}, {66, 130, 0, 63, 9, 9}, {66, 129, 1, 3, 9}};
        for (int[] order : orders) {
            HouseWires x = opened();
            hear(x, order);
            String what = "4 order " + order[0] + ", " + order[1];
            how(what, x, 1, ELSE, 0, 1, 0, 0, 1, 1);
            CHECK.due(what, x.reply(0, -1), 0);
            for (int k = 0; k < 64; k++) {
                CHECK.due(what + ", memory", x.memory(0, k), 0);
            }
        }
    }

    private static void memories() {
        HouseWires x = house();
        CHECK.due("20 at first", x.memory(0, 63), 0);
        CHECK.due("20 below", x.memory(0, -1), -1);
        CHECK.due("20 above", x.memory(0, 64), -1);
        CHECK.due("20 no device", x.memory(2, 0), -1);
        CHECK.no("21 below", x.store(0, -1, 5));
        CHECK.no("21 above", x.store(0, 64, 5));
        CHECK.no("21 no device", x.store(-1, 0, 5));
        CHECK.yes("21 first", x.store(0, 0, -2));
        CHECK.yes("21 last", x.store(0, 63, 513));
        CHECK.due("21 first", x.memory(0, 0), 254);
        CHECK.due("21 last", x.memory(0, 63), 1);
        CHECK.due("21 of another one", x.memory(1, 0), 0);
    }

    private static void reading() {
        HouseWires x = opened();
        for (int k = 0; k < 64; k++) {
            x.store(0, k, 100 + k);
        }
        hear(x, 66, 12, 0, 52);
        how("4 it waits for TAKES", x, 2, ELSE, 0, 1, 0, 1, 1, 2);
        says("5 TAKES first", x, ELSE, 194);
        x.step(3);
        says("4 ANSWER", x, ELSE, 66, 76, 0, 52, 152, 153, 154, 155, 156, 157, 158, 159, 160, 161,
                162, 163);
        x.step(3);
        hear(x, 194);
        how("5 taken", x, 1, ELSE, 1, 1);
        hear(x, 66 + 4, 1, 0, 64);
        x.step(4);
        says("4 ANSWER of what isn't there", x, ELSE, 66 + 4, 64, 0, 64);
        x.step(3);
        hear(x, 194 + 4);
        hear(x, 66 + 8, 2, 1, 2);
        x.step(4);
        says("4 place has two bytes", x, ELSE, 66 + 8, 64, 1, 2);
        x.step(3);
        HouseWires y = house();
        CHECK.no("18 closed", y.peek(0, 0, 1));
        y.connect(0, TWO);
        y.step(1);
        CHECK.no("18 no device", y.peek(2, 0, 1));
        CHECK.no("18 below", y.peek(0, -1, 1));
        CHECK.no("18 above", y.peek(0, 65536, 1));
        CHECK.no("18 none", y.peek(0, 0, 0));
        CHECK.no("18 thirteen", y.peek(0, 0, 13));
        how("18 refused", y, 1, TWO, 0, 0, 0, 0, 1, 0);
        CHECK.yes("18 most", y.peek(0, 65535, 12));
        how("18 waits", y, 2, TWO, 0, 0, 0, 0, 0, 1);
        CHECK.no("18 waits", y.peek(0, 0, 1));
        says("18 READ", y, TWO, 66, 12, 255, 255);
    }

    private static void readingWhileWaiting() {
        HouseWires x = opened();
        x.peek(0, 5, 1);
        x.step(4);
        hear(x, 66, 1, 0, 5);
        how("5 no ANSWER while it waits", x, 2, ELSE, 0, 1, 0, 5, 1, 1);
        says("5 TAKES", x, ELSE, 194);
        x.step(3);
        CHECK.due("5 nothing more", x.connection(0, 7), 0);
        hear(x, 66 + 4, 129, 0, 5, 33);
        CHECK.due("5 WRITE is done while it waits", x.memory(0, 5), 33);
        x.step(4);
        hear(x, 66 + 8, 66, 0, 5, 7, 8);
        CHECK.due("5 an ANSWER is kept while it waits", x.reply(0, 1), 8);
    }

    private static void writing() {
        HouseWires x = house();
        CHECK.no("19 closed", x.poke(0, 0, 1, 1));
        x.connect(0, TWO);
        x.step(1);
        CHECK.no("19 no device", x.poke(2, 0, 1, 1));
        CHECK.no("19 below", x.poke(0, -1, 1, 1));
        CHECK.no("19 above", x.poke(0, 65536, 1, 1));
        CHECK.no("19 none", x.poke(0, 0, 0, 1));
        CHECK.no("19 five", x.poke(0, 0, 5, 1));
        how("19 refused", x, 1, TWO, 0, 0, 0, 0, 1, 0);
        CHECK.yes("19 four", x.poke(0, 60, 4, 0xA1B2C3D4));
        CHECK.no("19 waits", x.poke(0, 0, 1, 1));
        says("19 WRITE", x, TWO, 66, 132, 0, 60, 0xA1, 0xB2, 0xC3, 0xD4);
        x.step(1);
        for (int k = 0; k < 4; k++) {
            CHECK.due("19 written", x.memory(1, 60 + k), new int[] {0xA1, 0xB2, 0xC3, 0xD4}[k]);
        }
        CHECK.yes("19 over the end", x.poke(0, 61, 4, -1));
        x.step(2);
        CHECK.due("19 over the end: nothing", x.memory(1, 61), 0xB2);
        CHECK.yes("19 two", x.poke(0, 0, 2, 0x12345678));
        x.step(2);
        CHECK.due("19 the higher one", x.memory(1, 0), 0x56);
        CHECK.due("19 the lower one", x.memory(1, 1), 0x78);
        CHECK.due("19 no more", x.memory(1, 2), 0);
        CHECK.yes("19 most", x.poke(0, 65535, 1, 1));
        CHECK.due("19 no ANSWER", x.step(9), 2);
        HouseWires y = opened();
        hear(y, 66, 140, 0, 52, 1, 2, 3, 4, 5, 6, 7, 8, 9, 10, 11, 12);
        for (int k = 0; k < 12; k++) {
            CHECK.due("4 twelve bytes", y.memory(0, 52 + k), k + 1);
        }
        CHECK.due("4 no more", y.memory(0, 51), 0);
    }

    private static void replies() {
        HouseWires x = opened();
        CHECK.due("22 none at all", x.reply(0, -1), 0);
        CHECK.due("22 none at all", x.reply(0, 0), -1);
        CHECK.due("22 no device", x.reply(2, -1), -1);
        CHECK.due("22 no device", x.reply(-1, 0), -1);
        hear(x, 66, 67, 0, 0, 11, 12, 13);
        CHECK.due("22 three", x.reply(0, -1), 3);
        CHECK.due("22 first", x.reply(0, 0), 11);
        CHECK.due("22 last", x.reply(0, 2), 13);
        CHECK.due("22 no more", x.reply(0, 3), -1);
        CHECK.due("22 below", x.reply(0, -2), -1);
        x.step(4);
        hear(x, 66 + 4, 76, 0, 0, 1, 2, 3, 4, 5, 6, 7, 8, 9, 10, 11, 12);
        CHECK.due("22 twelve", x.reply(0, -1), 12);
        CHECK.due("22 the twelfth", x.reply(0, 11), 12);
        CHECK.due("22 no 13th", x.reply(0, 12), -1);
        x.step(4);
        hear(x, 66 + 8, 64, 0, 0);
        CHECK.due("22 an empty one", x.reply(0, -1), 0);
        CHECK.due("22 an empty one", x.reply(0, 0), -1);
    }

    private static void takesAndRefuses() {
        HouseWires x = opened();
        hearFrom(x, 0x0808, 194);
        how("5 TAKES of another one", x, 1, ELSE, 0, 0, 0, 0, 2, 0);
        hear(x, 194);
        how("5 TAKES while it is open", x, 0, -1, 0, 0, 0, 0, 0, 1);
        says("5 CLOSES", x, ELSE, 129);
        x.step(3);
        hear(x, 194);
        hear(x, 195);
        how("5 TAKES, REFUSES while it is closed", x, 0, -1, 0, 0, 0, 0, 0, 0);
        hear(x, 128);
        hearFrom(x, 0x0808, 195);
        how("5 REFUSES of another one", x, 1, ELSE, 0, 0, 0, 0, 2, 0);
        hear(x, 195);
        how("5 REFUSES while it is open", x, 0, -1, 0, 0, 0, 0, 0, 1);
        HouseWires y = opened();
        y.poke(0, 0, 1, 1);
        y.step(4);
        hear(y, 194 + 4);
        how("5 TAKES of another number", y, 0, -1, 0, 0, 0, 0, 0, 1);
        HouseWires z = opened();
        z.poke(0, 0, 1, 1);
        z.step(4);
        hear(z, 195 + 4);
        how("5 REFUSES of another number", z, 0, -1, 0, 0, 0, 0, 0, 1);
        HouseWires w = house();
        w.connect(0, ELSE);
        Wire.send(w, 0, Wire.telegram(Wire.NEW_SYSTEM - 32, ELSE, ONE, 96, 194));
        Wire.send(w, 0, Wire.telegram(Wire.NEW_SYSTEM - 32, ELSE, ONE, 96, 195));
        w.step(2);
        how("5 TAKES, REFUSES while it joins", w, 3, ELSE, 0, 0, 0, 0, 0, 1);
    }

    private static void sendingAgain() {
        HouseWires x = opened();
        x.poke(0, 0x0102, 1, 7);
        x.step(4);
        for (int tries = 1; tries <= 3; tries++) {
            hear(x, 195);
            how("5 again", x, 2, ELSE, 0, 0, tries, 1);
            says("5 the same", x, ELSE, 66, 129, 1, 2, 7);
            CHECK.due("5 as a new one", x.sent(0), Wire.NEW_SYSTEM);
            x.step(3);
        }
        CHECK.due("5 idle goes on", x.connection(0, 6), 19);
        hear(x, 195);
        how("5 enough", x, 0, -1, 0, 0, 0, 0, 0, 1);
        says("5 CLOSES", x, ELSE, 129);
        HouseWires y = opened();
        y.poke(0, 0, 1, 7);
        y.step(4);
        hear(y, 195);
        y.step(4);
        hear(y, 194);
        how("5 taken", y, 1, ELSE, 1, 0, 0, 0, 1, 0);
        y.poke(0, 0, 1, 8);
        how("5 tries from 0 on", y, 2, ELSE, 1, 0, 0, 0, 0, 1);
        says("5 the next number", y, ELSE, 66 + 4, 129, 0, 0, 8);
    }

    private static void pauses() {
        HouseWires x = opened();
        x.poke(0, 0, 1, 7);
        x.step(29);
        how("5 a pause of 29", x, 2, ELSE, 0, 0, 0, 29, 29, 0);
        x.step(1);
        how("5 again at 30", x, 2, ELSE, 0, 0, 1, 0, 30, 1);
        says("5 the same", x, ELSE, 66, 129, 0, 0, 7);
        x.step(28);
        how("5 a pause of 29", x, 2, ELSE, 0, 0, 1, 29, 59, 0);
        x.step(1);
        how("5 again, and idle for too long", x, 0, -1, 0, 0, 0, 0, 0, 2);
        HouseWires y = opened();
        y.poke(0, 0, 1, 7);
        for (int tries = 0; tries < 3; tries++) {
            y.step(29);
            // DATA that are no orders keep the connection from being idle.
            hear(y, 64 + 4 * tries, 0);
            how("5 again, not idle", y, 2, ELSE, 0, tries + 1, tries + 1, 0, 1);
        }
        y.step(29);
        how("5 the last pause", y, 2, ELSE, 0, 3, 3, 29, 30);
        y.step(1);
        how("5 it closes", y, 0, -1, 0, 0, 0, 0, 0, 1);
    }

    private static void idling() {
        HouseWires x = house();
        x.connect(0, TWO);
        x.step(1);
        how("5 open", x, 1, TWO, 0, 0, 0, 0, 1);
        x.step(58);
        how("5 idle for 59", x, 1, TWO, 0, 0, 0, 0, 59, 0);
        x.step(1);
        how("5 idle for 60", x, 0, -1, 0, 0, 0, 0, 0, 1);
        CHECK.due("5 the other one too", x.connection(1, 0), 0);
        HouseWires y = opened();
        y.step(58);
        hear(y, 128);
        how("5 OPENS does not help", y, 0, -1);
        HouseWires z = opened();
        z.step(58);
        hear(z, 66 + 40, 0);
        how("5 DATA that are refused do", z, 1, ELSE, 0, 0, 0, 0, 1);
        z.step(58);
        hear(z, 66 + 60, 0);
        how("5 DATA of the latest number do", z, 1, ELSE, 0, 0, 0, 0, 1);
    }

    private static void numbersGoRound() {
        HouseWires x = house();
        x.connect(0, TWO);
        x.step(1);
        for (int i = 0; i < 17; i++) {
            CHECK.due("5 number", x.connection(0, 2), i % 16);
            CHECK.due("5 number", x.connection(1, 3), i % 16);
            CHECK.yes("5 poke", x.poke(0, i, 1, i + 1));
            x.step(2);
            CHECK.due("5 poked", x.memory(1, i), i + 1);
        }
        x.disconnect(0);
        x.step(1);
        x.connect(0, TWO);
        x.step(1);
        how("5 from 0 on again", x, 1, TWO, 0, 0);
        CHECK.due("5 from 0 on again", x.connection(1, 3), 0);
    }

    private static void otherPdus() {
        int[][] others = {{0}, {64}, {66}, {127}, {130}, {192}, {193}, {196}, {128, 0}, {129, 0},
            {194, 0}, {195, 0}, {0, 128, 1}, {255, 1}};
        for (int[] pdu : others) {
            HouseWires x = opened();
            hear(x, pdu);
            how("5 other PDU " + pdu[0], x, 1, ELSE, 0, 0, 0, 0, 2, 0);
            CHECK.due("5 it is taken", x.count(9), 1);
        }
        HouseWires y = house();
        Wire.send(y, 0, Wire.telegram(Wire.NEW_LOW, ELSE, ONE, 0, 128));
        y.step(1);
        how("5 of any priority, any hops", y, 1, ELSE);
    }

    private static void whatIsTold() {
        HouseWires x = house();
        CHECK.due("23 no device", x.connection(2, 0), -1);
        CHECK.due("23 no device", x.connection(-1, 8), -1);
        CHECK.due("23 below", x.connection(0, -1), -1);
        CHECK.due("23 above", x.connection(0, 12), -1);
        CHECK.due("23 address", x.connection(1, 8), TWO);
        CHECK.due("23 busy", x.connection(0, 9), 0);
        x.busy(0, 3);
        CHECK.due("23 busy", x.connection(0, 9), 3);
        x.object(0, 0, 31, 0);
        x.object(0, 0, 31, 0);
        x.link(0, 0, 1);
        CHECK.due("23 objects", x.connection(0, 10), 2);
        CHECK.due("23 links", x.connection(0, 11), 1);
    }
}

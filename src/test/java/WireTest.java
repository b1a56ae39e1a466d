/** Promises 24 to 31 and the STEP: who sends, how it is heard, answered and repeated. */
public final class WireTest {
    private static final Check CHECK = new Check("WireTest");
    private static final int ONE = 257;

    public static void main(String[] args) {
        busy();
        tape();
        raw();
        fullTester();
        rawThatIsNotGood();
        harms();
        harmsThatAreTold();
        harmedButGood();
        repeatedAndLost();
        notDoneTwice();
        doneTwiceIfAnotherCameBetween();
        latestOfEachSide();
        fullDevice();
        fullCoupler();
        strongestAnswer();
        pressingOnesFirst();
        bitByBit();
        oneStepLater();
        steps();
        sent();
        counts();
        CHECK.end();
    }

    /** A line with two devices that have an object of 8 bits with group 5. */
    private static HouseWires house() {
        HouseWires x = new HouseWires();
        x.line(1);
        for (int d = 0; d < 2; d++) {
            x.device(0, d + 1);
            x.object(d, 4, 31, 1);
            x.link(d, 0, 5);
        }
        return x;
    }

    private static int[] write(int control, int v) {
        return Wire.toGroup(control, 5, 0, 128, v);
    }

    private static void busy() {
        HouseWires x = house();
        CHECK.no("24 below", x.busy(0, -1));
        CHECK.no("24 above", x.busy(0, 21));
        CHECK.no("24 no device", x.busy(2, 1));
        CHECK.no("24 no device", x.busy(-1, 1));
        CHECK.yes("24 most", x.busy(1, 20));
        CHECK.due("24 most", x.connection(1, 9), 20);
        CHECK.yes("24 two", x.busy(1, 2));
        x.set(0, 0, 3);
        x.step(1);
        CHECK.due("24 BUSY", x.count(9), 3);
        CHECK.due("24 one less", x.connection(1, 9), 1);
        CHECK.due("24 not taken", x.updated(1, 0), 0);
        x.step(1);
        CHECK.due("24 BUSY", x.count(9), 3);
        x.step(1);
        CHECK.due("24 no more", x.count(9), 1);
        CHECK.due("24 taken", x.updated(1, 0), 1);
        x.busy(1, 2);
        Wire.send(x, 0, Wire.toGroup(Wire.NEW_LOW, 6, 0, 128, 3));
        x.step(1);
        CHECK.due("24 what it would not take", x.connection(1, 9), 2);
        x.harm(0, 0, 1);
        x.step(1);
        CHECK.due("24 what is not good", x.count(9), 2);
        CHECK.due("24 what is not good", x.connection(1, 9), 2);
        CHECK.yes("24 none", x.busy(1, 0));
        CHECK.due("24 none", x.connection(1, 9), 0);
    }

    private static void tape() {
        HouseWires x = house();
        CHECK.due("26 empty", x.end(0), 0);
        CHECK.due("26 below", x.end(-1), -1);
        CHECK.due("26 more than there are", x.end(1), -1);
        CHECK.due("25 twenty", x.feed(1, 2, 3, 4, 5), 20);
        CHECK.due("25 forty", x.feed(1, 2, 3, 4, 5), 40);
        CHECK.due("26 all", x.end(40), 40);
        CHECK.due("26 more than there are", x.end(41), -1);
        CHECK.due("25 sixty", x.feed(1, 2, 3, 4, 5), 60);
        CHECK.due("25 more", x.feed(1, 2, 3, 4, 5), -1);
        CHECK.due("25 still sixty", x.count(13), 60);
        CHECK.due("26 to 41", x.end(41), 41);
        CHECK.due("25 61", x.feed(1, 2, 3, 4, 5), -1);
        CHECK.due("26 to 40", x.end(40), 40);
        CHECK.due("25 sixty", x.feed(1, 2, 3, 4, 5), 60);
        CHECK.due("26 to 0", x.end(0), 0);
        x.feed(0x81828384, 0x05060708, 0x090A0B0C, 0xFDFEFF00, 0x11121314);
        CHECK.due("26 to 19", x.end(19), 19);
        x.raw(0);
        x.step(1);
        CHECK.sent("25 the highest byte first", x, 0x81, 0x82, 0x83, 0x84, 5, 6, 7, 8, 9, 10, 11,
                12, 0xFD, 0xFE, 0xFF, 0, 0x11, 0x12, 0x13);
        x.feed(0x01020304, 0x05060708, 0x090A0B0C, 0x0D0E0F10, 0x11121314);
        x.end(3);
        x.feed(0x21222324, 0x25262728, 0, 0, 0);
        x.end(8);
        x.raw(0);
        x.step(4);
        CHECK.sent("25 behind the others", x, 1, 2, 3, 0x21, 0x22, 0x23, 0x24, 0x25);
    }

    private static void raw() {
        HouseWires x = house();
        CHECK.due("27 empty", x.raw(0), -1);
        Wire.fill(x, 1, 2, 3, 4, 5, 6, 7);
        CHECK.due("27 seven", x.raw(0), -1);
        CHECK.due("27 they are still there", x.count(13), 7);
        Wire.fill(x, new int[24]);
        CHECK.due("27 24", x.raw(0), -1);
        CHECK.due("27 they are still there", x.count(13), 24);
        x.end(23);
        CHECK.due("27 no line", x.raw(1), -1);
        CHECK.due("27 no line", x.raw(-1), -1);
        CHECK.due("27 23", x.raw(0), 1);
        CHECK.due("27 empty then", x.count(13), 0);
        CHECK.due("27 eight", Wire.send(x, 0, new int[8]), 2);
        CHECK.due("27 both wait", x.count(11), 2);
        CHECK.due("27 not sent yet", x.count(4), 0);
        Wire.send(x, 0, write(Wire.NEW_LOW, 77));
        x.step(9);
        CHECK.due("27 heard", x.value(0, 0), 77);
        CHECK.due("27 heard", x.value(1, 0), 77);
    }

    private static void fullTester() {
        HouseWires x = house();
        for (int i = 1; i <= 8; i++) {
            CHECK.due("27 in the row", Wire.send(x, 0, write(Wire.NEW_LOW, i)), i);
        }
        CHECK.due("27 full", Wire.send(x, 0, write(Wire.NEW_LOW, 9)), -2);
        CHECK.due("27 full: the TAPE is as it was", x.count(13), 10);
        CHECK.due("27 nothing is dropped", x.count(7), 0);
        x.end(7);
        CHECK.due("27 full, and other bytes", x.raw(0), -1);
        x.step(8);
        CHECK.due("27 all eight", x.value(0, 0), 8);
        CHECK.due("27 all eight", x.updated(0, 0), 8);
    }

    private static void rawThatIsNotGood() {
        int[] good = write(Wire.NEW_LOW, 5);
        int[] check = good.clone();
        check[9] ^= 1;
        int[] longer = Wire.telegram(Wire.NEW_LOW, 0x6363, 5, 128 + 96 + 1, 0, 128, 5);
        int[] shorter = Wire.telegram(Wire.NEW_LOW, 0x6363, 5, 128 + 96 - 1, 0, 128, 5);
        for (int[] bad : new int[][] {check, longer, shorter}) {
            HouseWires x = house();
            Wire.send(x, 0, bad);
            x.step(1);
            CHECK.due("2 not good: NACK", x.count(9), 2);
            CHECK.due("2 not good: not taken", x.updated(0, 0), 0);
            x.step(1);
            int[] again = bad.clone();
            again[0] ^= 32;
            again[again.length - 1] ^= 32;
            CHECK.sent("2 repeated, its CHECK turned likewise", x, again);
            x.step(2);
            CHECK.due("2 lost", x.count(6), 1);
        }
        HouseWires y = new HouseWires();
        y.line(1);
        Wire.send(y, 0, check);
        y.step(1);
        CHECK.due("2 the tester does not answer", y.count(9), 0);
    }

    private static void harms() {
        HouseWires x = house();
        CHECK.no("28 below", x.harm(-1, 0, 1));
        CHECK.no("28 above", x.harm(501, 0, 1));
        CHECK.no("28 place below", x.harm(0, -1, 1));
        CHECK.no("28 place above", x.harm(0, 23, 1));
        CHECK.no("28 by nothing", x.harm(0, 0, 0));
        CHECK.no("28 by too much", x.harm(0, 0, 256));
        CHECK.due("28 none told", x.count(12), 0);
        CHECK.yes("28 farthest", x.harm(500, 22, 255));
        CHECK.yes("28 the second one", x.harm(1, 8, 1));
        CHECK.yes("28 without that byte", x.harm(0, 10, 255));
        CHECK.due("28 three told", x.count(12), 3);
        x.set(0, 0, 9);
        x.step(1);
        CHECK.due("28 not harmed", x.count(9), 1);
        CHECK.due("28 it is sent: told no more", x.count(12), 2);
        x.set(0, 0, 10);
        x.step(1);
        CHECK.due("28 harmed", x.count(9), 2);
        CHECK.sent("30 as it was meant", x,
                Wire.telegram(Wire.NEW_NORMAL, ONE, 5, 128 + 96, 0, 128, 10));
        CHECK.due("28 told no more", x.count(12), 1);
        CHECK.due("28 not taken", x.value(1, 0), 9);
        CHECK.yes("28 counted from now on", x.harm(1, 0, 4));
        x.step(1);
        CHECK.due("28 not the next one", x.count(9), 1);
        x.set(0, 0, 11);
        x.step(1);
        CHECK.due("28 but the one behind it", x.count(9), 2);
    }

    private static void harmsThatAreTold() {
        HouseWires x = house();
        for (int i = 0; i < 64; i++) {
            CHECK.yes("28 harm", x.harm(i / 20, i % 20, 1));
        }
        CHECK.no("28 a 65th", x.harm(9, 0, 1));
        CHECK.yes("28 in place of another one", x.harm(0, 0, 255));
        CHECK.due("28 64", x.count(12), 64);
        x.set(0, 0, 1);
        x.step(1);
        CHECK.due("28 twenty are gone", x.count(12), 44);
        CHECK.yes("28 room again", x.harm(9, 0, 1));
        HouseWires y = house();
        y.harm(0, 8, 1);
        y.harm(0, 8, 2);
        y.harm(0, 9, 2);
        CHECK.due("28 two are told", y.count(12), 2);
        y.set(0, 0, 8);
        y.step(1);
        CHECK.due("28 the later one counts", y.value(1, 0), 10);
        y.harm(0, 8, 16);
        y.harm(1, 8, 64);
        y.harm(0, 9, 16);
        y.harm(1, 9, 64);
        y.harm(2, 7, 1);
        y.set(0, 0, 1);
        y.set(0, 0, 2);
        y.step(1);
        CHECK.due("28 those of the first one", y.value(1, 0), 17);
        CHECK.due("28 those of others are left", y.count(12), 3);
        y.step(1);
        CHECK.due("28 those of the second one", y.value(1, 0), 66);
        y.set(0, 0, 3);
        y.step(1);
        CHECK.due("28 that of the third one", y.count(9), 2);
        CHECK.due("28 none is left", y.count(12), 0);
    }

    private static void harmedButGood() {
        HouseWires x = house();
        // CONTROL's 32 and CHECK likewise: good, and heard as a REPEATED one.
        x.set(0, 0, 8);
        x.step(1);
        x.harm(0, 0, 32);
        x.harm(0, 9, 32);
        x.set(0, 0, 8);
        x.step(1);
        CHECK.due("2 heard as repeated, answered", x.count(9), 1);
        CHECK.due("2 heard as repeated, not done", x.updated(1, 0), 1);
        // Another GROUP, as it is heard.
        x.link(1, 0, 4);
        x.harm(0, 4, 1);
        x.harm(0, 9, 1);
        x.set(0, 0, 8);
        x.step(1);
        CHECK.due("2 done as it is heard", x.updated(1, 0), 2);
        // LAYER and CHECK likewise, so that the length is not as told.
        x.harm(0, 5, 1);
        x.harm(0, 9, 1);
        x.set(0, 0, 8);
        x.step(1);
        CHECK.due("2 LAYER tells another length", x.count(9), 2);
    }

    private static void repeatedAndLost() {
        HouseWires x = new HouseWires();
        x.line(1);
        x.device(0, 1);
        x.object(0, 4, 31, 1);
        x.link(0, 0, 5);
        x.set(0, 0, 1);
        x.set(0, 0, 2);
        x.step(1);
        CHECK.sent("2 first", x, Wire.telegram(Wire.NEW_NORMAL, ONE, 5, 224, 0, 128, 1));
        CHECK.due("2 no answer", x.count(9), 0);
        CHECK.due("2 it stays", x.connection(0, 7), 2);
        for (int i = 0; i < 3; i++) {
            CHECK.due("2 it stays", x.connection(0, 7), 2);
            x.step(1);
            CHECK.sent("2 repeated", x,
                    Wire.telegram(Wire.NEW_NORMAL - 32, ONE, 5, 224, 0, 128, 1));
        }
        CHECK.due("2 lost", x.count(6), 1);
        CHECK.due("2 the next one is left", x.connection(0, 7), 1);
        x.step(1);
        CHECK.sent("2 the next one", x, Wire.telegram(Wire.NEW_NORMAL, ONE, 5, 224, 0, 128, 2));
        CHECK.due("2 four times anew", x.step(9), 3);
        CHECK.due("2 none was done", x.count(5), 0);
    }

    private static void notDoneTwice() {
        HouseWires x = house();
        Wire.send(x, 0, write(Wire.NEW_NORMAL, 5));
        Wire.send(x, 0, write(Wire.NEW_NORMAL - 32, 5));
        Wire.send(x, 0, write(Wire.NEW_NORMAL, 5));
        x.step(1);
        x.step(1);
        CHECK.due("2 like the latest one, repeated: ACK", x.count(9), 1);
        CHECK.due("2 like the latest one, repeated: not done", x.updated(0, 0), 1);
        x.step(1);
        CHECK.due("2 like the latest one, new: done", x.updated(0, 0), 2);
        Wire.send(x, 0, write(Wire.NEW_LOW - 32, 5));
        x.step(1);
        CHECK.due("2 of another priority: done", x.updated(0, 0), 3);
        Wire.send(x, 0, write(Wire.NEW_LOW - 32, 6));
        x.step(1);
        CHECK.due("2 other bytes: done", x.updated(0, 0), 4);
        Wire.send(x, 0, Wire.telegram(Wire.NEW_LOW - 32, 0x6363, 5, 128 + 80, 0, 128, 6));
        x.step(1);
        CHECK.due("2 other hops: done", x.updated(0, 0), 5);
        Wire.send(x, 0, Wire.telegram(Wire.NEW_LOW - 32, 0x6364, 5, 128 + 80, 0, 128, 6));
        x.step(1);
        CHECK.due("2 another source: done", x.updated(0, 0), 6);
        Wire.send(x, 0, Wire.telegram(Wire.NEW_LOW - 32, 0x6264, 5, 128 + 80, 0, 128, 6));
        x.step(1);
        CHECK.due("2 another source: done", x.updated(0, 0), 7);
        HouseWires y = house();
        Wire.send(y, 0, write(Wire.NEW_NORMAL - 32, 5));
        y.step(1);
        CHECK.due("2 repeated, but the first one", y.updated(0, 0), 1);
    }

    private static void doneTwiceIfAnotherCameBetween() {
        HouseWires x = house();
        Wire.send(x, 0, write(Wire.NEW_NORMAL, 5));
        Wire.send(x, 0, Wire.toAddress(0x6363, ONE, 0, 0));
        Wire.send(x, 0, write(Wire.NEW_NORMAL - 32, 5));
        x.step(3);
        CHECK.due("2 the latest one alone is looked at", x.updated(0, 0), 2);
        CHECK.due("2 each station has its own", x.updated(1, 0), 1);
    }

    private static void latestOfEachSide() {
        HouseWires x = new HouseWires();
        x.line(1);
        x.line(2);
        x.coupler(0, 1);
        x.mode(0, 1);
        x.device(0, 1);
        x.object(0, 4, 31, 1);
        x.link(0, 0, 5);
        x.busy(0, 1);
        Wire.send(x, 0, write(Wire.NEW_LOW, 5));
        x.step(1);
        CHECK.due("2 BUSY by the device", x.count(9), 3);
        CHECK.due("2 passed all the same", x.count(8), 1);
        x.step(1);
        CHECK.due("2 repeated: not passed twice", x.count(8), 1);
        CHECK.due("2 repeated: taken by the device", x.updated(0, 0), 1);
        x.step(3);
        Wire.send(x, 1, write(Wire.NEW_LOW - 32, 5));
        x.step(1);
        CHECK.due("2 from the other line it is another matter", x.count(8), 2);
    }

    private static void fullDevice() {
        HouseWires x = house();
        for (int i = 0; i < 8; i++) {
            x.set(0, 0, i);
        }
        Wire.send(x, 0, Wire.toGroup(Wire.NEW_SYSTEM, 5, 0, 0));
        x.step(1);
        CHECK.due("2 BUSY with a full row", x.count(9), 3);
        CHECK.due("2 the other one has done it", x.connection(1, 7), 1);
        x.busy(0, 1);
        x.step(1);
        CHECK.due("2 told to be BUSY goes first", x.connection(0, 9), 0);
    }

    private static void fullCoupler() {
        HouseWires x = new HouseWires();
        x.line(1);
        x.line(2);
        x.coupler(0, 1);
        x.mode(0, 1);
        x.device(0, 1);
        x.object(0, 4, 13, 1);
        x.link(0, 0, 5);
        // Nobody answers on the second line, so that a telegram leaves it each fourth step.
        int[] answers = new int[12];
        for (int i = 0; i < 12; i++) {
            x.set(0, 0, i);
            x.step(1);
            answers[i] = x.count(10) == 0 ? x.count(9) : 9;
        }
        CHECK.due("2 the latest one was sent on the second line", answers[11], 9);
        CHECK.due("2 the coupler's row is full", x.count(11) - x.connection(0, 7), 8);
        CHECK.due("2 passed", x.count(8), 10);
        CHECK.due("2 BUSY: the others wait", x.connection(0, 7), 2);
        CHECK.due("2 nothing is dropped", x.count(7), 0);
    }

    private static void strongestAnswer() {
        HouseWires x = house();
        x.device(0, 3);
        x.object(2, 4, 31, 1);
        x.link(2, 0, 5);
        x.busy(1, 1);
        Wire.send(x, 0, write(Wire.NEW_LOW, 5));
        x.step(1);
        CHECK.due("2 BUSY by one, ACK by others", x.count(9), 3);
        CHECK.due("2 the others have done it", x.updated(0, 0), 1);
        CHECK.due("2 the others have done it", x.updated(2, 0), 1);
        x.step(1);
        CHECK.due("2 ACK by all", x.count(9), 1);
        CHECK.due("2 done once", x.updated(2, 0), 1);
        CHECK.due("2 done by the one that was BUSY", x.updated(1, 0), 1);
    }

    private static void pressingOnesFirst() {
        int[] controls = {Wire.NEW_LOW, Wire.NEW_NORMAL, Wire.NEW_URGENT, Wire.NEW_SYSTEM,
            Wire.NEW_LOW - 32, Wire.NEW_NORMAL - 32, Wire.NEW_URGENT - 32, Wire.NEW_SYSTEM - 32};
        for (int control : controls) {
            HouseWires x = house();
            // The device's bytes win over those of the tester, but for what is pressing.
            x.object(0, 4, 31, 1);
            x.link(0, 1, 5);
            x.set(0, 1, 0);
            int[] bytes = write(control | 1, 5);
            Wire.send(x, 0, bytes);
            x.step(1);
            boolean isPressing = control != Wire.NEW_LOW && control != Wire.NEW_NORMAL;
            CHECK.due("2 control " + control, x.connection(0, 7), isPressing ? 1 : 0);
        }
    }

    /** Sends two telegrams that want the wire in one step: true if the tester's went first. */
    private static boolean testerWins(int[] bytes, int priority, int group, int v) {
        HouseWires x = new HouseWires();
        x.line(1);
        x.device(0, 1);
        x.object(0, 4, 31, priority);
        x.link(0, 0, group);
        x.set(0, 0, v);
        Wire.send(x, 0, bytes);
        x.step(1);
        boolean isTesters = x.sent(-1) == bytes.length;
        for (int k = 0; k < bytes.length && isTesters; k++) {
            isTesters = x.sent(k) == bytes[k];
        }
        return isTesters;
    }

    private static void bitByBit() {
        // The device sends 180 1 1 0 5 226 0 128 v.
        int[] same = Wire.telegram(Wire.NEW_NORMAL, ONE, 5, 224, 0, 128, 2);
        CHECK.yes("2 a 0 in the lowest bit that differs",
                testerWins(Wire.telegram(Wire.NEW_NORMAL, 0x0200, 5, 224, 0, 128, 2), 1, 5, 7));
        CHECK.no("2 a 1 in the lowest bit that differs",
                testerWins(Wire.telegram(Wire.NEW_NORMAL, 0x0300, 5, 224, 0, 128, 2), 1, 5, 7));
        CHECK.yes("2 bytes from the first on: SOURCE ahead of GOAL",
                testerWins(Wire.telegram(Wire.NEW_NORMAL, 0x0180, 255, 224, 0, 128, 2), 1, 4, 7));
        CHECK.yes("2 the last byte: 2 wins over 3", testerWins(same, 1, 5, 3));
        CHECK.no("2 the last byte: 4 wins over 2", testerWins(same, 1, 5, 4));
        CHECK.yes("2 control: 176 wins over 184", testerWins(
                Wire.telegram(Wire.NEW_SYSTEM, ONE, 5, 224, 0, 128, 2), 2, 5, 1));
        CHECK.no("2 control: 176 wins over 184", testerWins(
                Wire.telegram(Wire.NEW_URGENT, ONE, 5, 224, 0, 128, 2), 0, 5, 1));
        int[] shorter = {180, 1, 1, 0, 5, 226, 0, 128};
        HouseWires x = house();
        x.ask(0, 0);
        int[] asks = Wire.telegram(Wire.NEW_NORMAL, ONE, 5, 224, 0, 0);
        int[] longer = java.util.Arrays.copyOf(asks, 10);
        longer[9] = 254;
        Wire.send(x, 0, longer);
        x.step(1);
        CHECK.due("2 a 0 wins over a byte that isn't there", x.sent(-1), 10);
        HouseWires y = house();
        y.ask(0, 0);
        longer[9] = 255;
        Wire.send(y, 0, longer);
        y.step(1);
        CHECK.due("2 all 1s are like a byte that isn't there", y.sent(-1), 9);
        CHECK.no("2 a byte that isn't there has all 1s", testerWins(shorter, 1, 5, 254));
        CHECK.no("2 all alike, byte 8 of all 1s, but CHECK has a 0", testerWins(shorter, 1, 5, 255));
    }

    private static void oneStepLater() {
        HouseWires x = new HouseWires();
        x.line(1);
        x.line(2);
        x.coupler(0, 1);
        x.mode(0, 1);
        x.device(1, 1);
        x.object(0, 4, 31, 1);
        x.link(0, 0, 5);
        Wire.send(x, 0, Wire.toGroup(Wire.NEW_LOW, 5, 0, 0));
        CHECK.due("2 what comes in this step waits", x.step(1), 1);
        CHECK.due("2 the coupler's is sent in the next one", x.step(1), 1);
        CHECK.due("2 a TELL waits", x.count(4), 2);
        CHECK.due("2 then it is sent", x.step(1), 1);
        CHECK.due("2 on the second line", x.count(10), 1);
        CHECK.due("2 then on the first line", x.step(1), 1);
        CHECK.due("2 on the first line", x.count(10), 0);
        Wire.send(x, 0, write(Wire.NEW_LOW, 1));
        Wire.send(x, 1, write(Wire.NEW_LOW, 2));
        x.step(3);
        Wire.send(x, 0, write(Wire.NEW_LOW, 3));
        Wire.send(x, 1, write(Wire.NEW_LOW, 4));
        CHECK.due("2 each line sends one", x.step(1) > 1 ? 1 : 0, 1);
        CHECK.due("2 the lines by numbers", x.count(10), 1);
    }

    private static void steps() {
        HouseWires x = house();
        CHECK.due("29 none", Check.stepOrThrows(x, 0), Check.THROWS);
        CHECK.due("29 below", Check.stepOrThrows(x, -1), Check.THROWS);
        CHECK.due("29 above", Check.stepOrThrows(x, 201), Check.THROWS);
        CHECK.due("29 nothing is changed", x.count(0), 0);
        x.set(0, 0, 1);
        x.set(0, 0, 2);
        x.set(1, 0, 3);
        CHECK.due("29 two steps", x.step(2), 2);
        CHECK.due("29 most", x.step(200), 1);
        CHECK.due("29 the clock", x.count(0), 202);
        CHECK.due("29 least", x.step(1), 0);
    }

    private static void sent() {
        HouseWires x = house();
        CHECK.due("30 none sent", Check.sentOrThrows(x, 0), Check.THROWS);
        CHECK.due("30 none sent", Check.sentOrThrows(x, -1), Check.THROWS);
        x.set(0, 0, 200);
        x.step(1);
        CHECK.due("30 bytes", Check.sentOrThrows(x, -1), 10);
        CHECK.due("30 first", Check.sentOrThrows(x, 0), 180);
        CHECK.due("30 PDU", Check.sentOrThrows(x, 8), 200);
        CHECK.due("30 no more", Check.sentOrThrows(x, 10), Check.THROWS);
        CHECK.due("30 below", Check.sentOrThrows(x, -2), Check.THROWS);
        Wire.send(x, 0, new int[23]);
        x.step(1);
        CHECK.due("30 23", Check.sentOrThrows(x, -1), 23);
        CHECK.due("30 last", Check.sentOrThrows(x, 22), 0);
        CHECK.due("30 no more", Check.sentOrThrows(x, 23), Check.THROWS);
    }

    private static void counts() {
        HouseWires x = house();
        x.line(2);
        x.coupler(0, 1);
        CHECK.due("31 below", x.count(-1), -1);
        CHECK.due("31 above", x.count(14), -1);
        CHECK.due("31 lines", x.count(1), 2);
        CHECK.due("31 devices", x.count(2), 2);
        CHECK.due("31 couplers", x.count(3), 1);
        CHECK.due("31 no line", x.count(10), -1);
        x.set(0, 0, 1);
        Wire.send(x, 1, write(Wire.NEW_LOW, 1));
        x.feed(1, 2, 3, 4, 5);
        x.harm(9, 9, 9);
        CHECK.due("31 in all rows", x.count(11), 2);
        CHECK.due("31 harms", x.count(12), 1);
        CHECK.due("31 tape", x.count(13), 20);
        x.step(5);
        int[] want = {5, 2, 2, 1, 5, 1, 1, 0, 0, 0, 1, 0, 1, 20};
        for (int what = 0; what < want.length; what++) {
            CHECK.due("31 count " + what, x.count(what), want[what]);
        }
    }
}

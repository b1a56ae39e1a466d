/** The edges of the document's parts 1 and 2, TELEGRAMS and a STEP: a method for each sentence. */
public final class StepEdgesTest {
    private static final Check CHECK = new Check("StepEdgesTest");
    private static final int ONE = 257;
    private static final int STRANGER = 0x6363;

    public static void main(String[] args) {
        shortestAndLongest();
        everyCheck();
        controls();
        numbersOfTwoBytes();
        hopsOfDevices();
        rowOfADevice();
        rowOfATester();
        rowOfACoupler();
        clockFromZero();
        cameInThisStep();
        cameInThisStepByTimes();
        oneOfALine();
        pressingByThreeBits();
        nonePresses();
        lowestBitFirst();
        bytesFromTheFirstOn();
        threeStations();
        byteThatIsNotThere();
        allAlike();
        layerTellsTheLength();
        wrongCheck();
        nackByAll();
        nobodyHears();
        others();
        busyAheadOfAll();
        rowOfSevenAndOfEight();
        busyOnceLess();
        doneAgainIfNotRepeated();
        notDoneAgain();
        likeButForOneByte();
        lengthOfTheLikeOnes();
        busyIsNotDone();
        sentFourTimes();
        doneTheFourthTime();
        repeatedAlready();
        nextOneIsNew();
        hopsOfCouplers();
        hopsOfTheLongest();
        hopsOfAddresses();
        filterAndZero();
        wholePartOfGoal();
        withoutThisCoupler();
        rowsOfCouplers();
        allOnOneLine();
        passedAsNew();
        notPassedAgain();
        dropped();
        CHECK.end();
    }

    /** A line of NUMBER 1 with devices 1 and 2, each with an object of 8 bits in group 5. */
    private static HouseWires pair() {
        HouseWires x = new HouseWires();
        x.line(1);
        for (int d = 0; d < 2; d++) {
            x.device(0, d + 1);
            x.object(d, 4, 31, 1);
            x.link(d, 0, 5);
        }
        return x;
    }

    /** Lines of NUMBERS 1 and 2 with a coupler that passes all groups; no devices. */
    private static HouseWires twoLines() {
        HouseWires x = new HouseWires();
        x.line(1);
        x.line(2);
        x.coupler(0, 1);
        x.mode(0, 1);
        return x;
    }

    private static int[] write(int control, int v) {
        return Wire.toGroup(control, 5, 0, 128, v);
    }

    /** What the line answers to a telegram of its tester. */
    private static int answer(HouseWires x, int line, int... bytes) {
        Wire.send(x, line, bytes);
        x.step(1);
        return x.count(9);
    }

    /** Line 0's wire is taken for 32 steps, by telegrams that win over all others. */
    private static void block(HouseWires x) {
        for (int i = 0; i < 8; i++) {
            Wire.send(x, 0, new int[8]);
        }
    }

    private static void shortestAndLongest() {
        CHECK.by("PDU (1 to 16 bytes)");
        HouseWires x = pair();
        x.connect(0, 258);
        x.step(1);
        CHECK.sent("of one byte", x, Wire.telegram(176, ONE, 258, 96, 128));
        CHECK.due("LAYER", x.sent(5), 96);
        x.peek(0, 0, 12);
        x.step(3);
        CHECK.due("of 16 bytes", x.sent(-1), 23);
        CHECK.due("LAYER", x.sent(5), 96 + 15);
        CHECK.due("taken", x.reply(0, -1), 12);
    }

    private static void everyCheck() {
        CHECK.by("CHECK: 255 less the xor of all other bytes.");
        for (int i = 0; i < 256; i++) {
            int[] bytes = Wire.telegram(Wire.NEW_LOW, i, 5, 224, 0, 128, 7);
            HouseWires x = pair();
            CHECK.due("CHECK " + bytes[9], answer(x, 0, bytes), 1);
        }
        HouseWires y = pair();
        // 180, 1, 1, 0, 5, 226, 0, 128 and v: their xor is 211 xor v.
        for (int v : new int[] {211, 211 ^ 255}) {
            y.set(0, 0, v);
            y.step(1);
            CHECK.due("CHECK of " + v, y.sent(9), v == 211 ? 255 : 0);
        }
    }

    private static void controls() {
        CHECK.by("CONTROL: 144, PRIORITY times 4, and 32, if it is not REPEATED.");
        for (int priority = 0; priority < 4; priority++) {
            HouseWires x = new HouseWires();
            x.line(1);
            x.device(0, 1);
            x.object(0, 0, 31, priority);
            x.link(0, 0, 5);
            x.set(0, 0, 1);
            for (int sendings = 1; sendings <= 4; sendings++) {
                x.step(1);
                int control = 144 + 4 * priority + (sendings == 1 ? 32 : 0);
                CHECK.sent("priority " + priority, x,
                        Wire.telegram(control, ONE, 5, 224, 0, 129));
            }
        }
    }

    private static void numbersOfTwoBytes() {
        CHECK.by("numbers of two bytes the higher byte first");
        HouseWires x = new HouseWires();
        x.line(255);
        x.line(0);
        int[][] cases = {{0, 255, 65535, 1}, {0, 1, 255, 256}, {1, 254, 1, 65535}};
        for (int d = 0; d < cases.length; d++) {
            x.device(cases[d][0], cases[d][1]);
            x.object(d, 0, 31, 1);
            x.link(d, 0, cases[d][2]);
            x.link(d, 0, cases[d][3]);
            x.set(d, 0, 0);
            x.step(1);
            int source = (cases[d][0] == 0 ? 65280 : 0) + cases[d][1];
            CHECK.sent("device " + d, x,
                    Wire.telegram(180, source, cases[d][2], 224, 0, 128));
            x.step(3);
        }
    }

    private static void hopsOfDevices() {
        CHECK.by("What DEVICES send has HOPS 6 and their ADDRESS as SOURCE.");
        HouseWires x = pair();
        x.set(0, 0, 1);
        x.step(1);
        CHECK.due("WRITE", x.sent(5) / 16, 8 + 6);
        x.ask(0, 0);
        x.step(1);
        CHECK.due("ASK", x.sent(5) / 16, 8 + 6);
        x.step(1);
        CHECK.due("TELL", x.sent(5) / 16, 8 + 6);
        CHECK.due("of the other one", 256 * x.sent(1) + x.sent(2), 258);
        x.connect(0, 0x0909);
        x.step(1);
        CHECK.due("OPENS", x.sent(5) / 16, 6);
    }

    private static void rowOfADevice() {
        CHECK.by("A STATION has an OUT row of TELEGRAMS for this LINE, 8 at most");
        HouseWires x = pair();
        for (int i = 1; i <= 8; i++) {
            CHECK.due("set", x.set(0, 0, i), i);
        }
        CHECK.due("a ninth", x.set(0, 0, 9), -2);
        for (int i = 1; i <= 8; i++) {
            x.step(1);
            CHECK.due("the first is the next one", x.sent(8), i);
        }
        for (int i = 0; i < 8; i++) {
            x.set(0, 0, i);
        }
        CHECK.due("of the other one", x.set(1, 0, 99), 1);
    }

    private static void rowOfATester() {
        CHECK.by("A STATION has an OUT row of TELEGRAMS for this LINE, 8 at most");
        HouseWires x = pair();
        for (int i = 1; i <= 8; i++) {
            CHECK.due("raw", Wire.send(x, 0, write(Wire.NEW_LOW, i)), i);
        }
        CHECK.due("a ninth", Wire.send(x, 0, write(Wire.NEW_LOW, 9)), -2);
        for (int i = 1; i <= 8; i++) {
            x.step(1);
            CHECK.due("the first is the next one", x.value(0, 0), i);
        }
        CHECK.due("none is left", x.count(11), 0);
    }

    private static void rowOfACoupler() {
        CHECK.by("else, if the OUT row into which it would come has 8");
        HouseWires x = twoLines();
        block(x);
        for (int i = 1; i <= 8; i++) {
            CHECK.due("ACK", answer(x, 1, write(Wire.NEW_LOW, i)), 1);
            CHECK.due("passed", x.count(8), i);
        }
        CHECK.due("a ninth", answer(x, 1, write(Wire.NEW_LOW, 9)), 3);
        CHECK.due("not passed", x.count(8), 8);
        CHECK.due("nor dropped", x.count(7), 0);
        CHECK.due("it stays", x.count(11), 6 + 8 + 1);
    }

    private static void clockFromZero() {
        CHECK.by("the clock (0 at first) is one more");
        HouseWires x = new HouseWires();
        CHECK.due("at first", x.count(0), 0);
        x.step(1);
        CHECK.due("one step, without lines", x.count(0), 1);
        x.line(1);
        x.step(2);
        CHECK.due("two more", x.count(0), 3);
    }

    private static void cameInThisStep() {
        CHECK.by("those whose first TELEGRAM came into their OUT row ahead of this STEP");
        for (int from = 0; from < 2; from++) {
            HouseWires x = twoLines();
            Wire.send(x, from, write(Wire.NEW_LOW, 1));
            CHECK.due("passed in this step", x.step(1), 1);
            CHECK.due("it waits", x.count(11), 1);
            CHECK.due("sent in the next one", x.step(1), 1);
            CHECK.due("on the other line", x.count(10), 1 - from);
        }
        HouseWires y = pair();
        y.ask(0, 0);
        CHECK.due("ASK", y.step(1), 1);
        CHECK.due("a TELL in the next one", y.step(1), 1);
        CHECK.due("ACT", y.sent(7), 64);
    }

    private static void cameInThisStepByTimes() {
        CHECK.by("then each DEVICE's TIMES (5), by numbers");
        HouseWires x = pair();
        x.connect(0, 258);
        x.step(1);
        CHECK.due("both are idle", x.step(59), 0);
        CHECK.due("both have closed", x.count(11), 2);
        CHECK.due("sent in the next one", x.step(1), 1);
    }

    private static void oneOfALine() {
        CHECK.by("till one is left. It SENDS.");
        HouseWires x = twoLines();
        for (int l = 0; l < 2; l++) {
            Wire.send(x, l, Wire.toAddress(STRANGER, 0x0909, 0, 0));
            Wire.send(x, l, Wire.toAddress(STRANGER, 0x0909, 0, 0));
        }
        CHECK.due("one of each line", x.step(1), 2);
        CHECK.due("the lines by numbers", x.count(10), 1);
        CHECK.due("four times each", x.step(200), 14);
    }

    /** Whether a tester's telegram goes ahead of a device's WRITE of PRIORITY NORMAL. */
    private static boolean testerFirst(int... bytes) {
        HouseWires x = pair();
        x.set(0, 0, 8);
        Wire.send(x, 0, bytes);
        x.step(1);
        boolean isSame = x.sent(-1) == bytes.length;
        for (int k = 0; isSame && k < bytes.length; k++) {
            isSame = x.sent(k) == bytes[k];
        }
        return isSame;
    }

    private static void pressingByThreeBits() {
        CHECK.by("(by CONTROL's bits 2, 3, 5, whatever else they are)");
        // All others of CONTROL's bits are 1, so that the device's 180 wins but for these.
        for (int three = 0; three < 8; three++) {
            int control = 0b11010011 | (three & 3) << 2 | (three & 4) << 3;
            int priority = three & 3;
            boolean presses = priority == 0 || priority == 2 || three < 4;
            CHECK.due("CONTROL " + control, testerFirst(write(control, 1)) ? 1 : 0,
                    presses ? 1 : 0);
            int bare = control & 0b00101100 | 1;
            CHECK.due("CONTROL " + bare, testerFirst(write(bare, 1)) ? 1 : 0, presses ? 1 : 0);
        }
    }

    private static void nonePresses() {
        CHECK.by("If PRIORITY of one of these is SYSTEM or URGENT, only such ones go on.");
        CHECK.yes("LOW against NORMAL, by an earlier byte", testerFirst(
                Wire.telegram(180, 0x0002, 5, 224, 0, 128, 1)));
        CHECK.no("LOW has a 1 where NORMAL has a 0", testerFirst(
                Wire.telegram(188, 0x0002, 5, 224, 0, 128, 1)));
        CHECK.yes("NORMAL with a 0 below it", testerFirst(
                Wire.telegram(148 | 32, 0, 5, 224, 0, 128, 1)));
    }

    private static void lowestBitFirst() {
        CHECK.by("each from its lowest bit on: where these differ first, those with a 0 go on");
        // The device sends 180 1 1 0 5 226 0 128 8.
        for (int bit = 0; bit < 8; bit++) {
            int[] lower = Wire.telegram(180, ONE, 5, 224, 0, 128, 8 ^ 1 << bit);
            boolean isZero = (lower[8] & 1 << bit) == 0;
            CHECK.due("bit " + bit, testerFirst(lower) ? 1 : 0, isZero ? 1 : 0);
        }
        CHECK.yes("16 wins over 8", testerFirst(Wire.telegram(180, ONE, 5, 224, 0, 128, 16)));
        CHECK.no("24 does not", testerFirst(Wire.telegram(180, ONE, 5, 224, 0, 128, 24)));
        CHECK.no("4 does not", testerFirst(Wire.telegram(180, ONE, 5, 224, 0, 128, 4)));
        CHECK.yes("0 does", testerFirst(Wire.telegram(180, ONE, 5, 224, 0, 128, 0)));
    }

    private static void bytesFromTheFirstOn() {
        CHECK.by("Bytes are laid side by side, from the first on");
        int[] same = Wire.telegram(180, ONE, 5, 224, 0, 128, 8);
        for (int k = 1; k < same.length; k++) {
            int[] wins = same.clone();
            wins[k] = same[k] & same[k] - 1;
            int[] loses = same.clone();
            loses[k] = same[k] | 1 << 1;
            // Behind the byte that differs the other bytes tell nothing.
            for (int j = k + 1; j < same.length; j++) {
                wins[j] = 255;
                loses[j] = 0;
            }
            boolean canWin = wins[k] != same[k];
            CHECK.due("byte " + k, testerFirst(wins) ? 1 : 0, canWin ? 1 : 0);
            boolean canLose = loses[k] != same[k];
            CHECK.due("byte " + k, canLose && testerFirst(loses) ? 1 : 0, 0);
        }
    }

    private static void threeStations() {
        CHECK.by("those with a 0 go on; and so on, till one is left");
        HouseWires x = pair();
        x.set(0, 0, 1);
        x.set(1, 0, 2);
        Wire.send(x, 0, Wire.telegram(180, 0x0103, 5, 224, 0, 128, 3));
        // SOURCES 1.1, 1.2 and 1.3: 2 has a 0 first, then of 1 and 3 it is 1.
        int[] want = {2, 1, 3};
        for (int i = 0; i < 3; i++) {
            x.step(1);
            CHECK.due("SOURCE", x.sent(2), want[i]);
        }
        CHECK.due("all were done", x.count(5), 3);
    }

    private static void byteThatIsNotThere() {
        CHECK.by("a byte that isn't there has all 1s");
        int[] same = Wire.telegram(180, ONE, 5, 224, 0, 128, 8);
        for (int last : new int[] {0, 127, 254, 255}) {
            int[] longer = java.util.Arrays.copyOf(same, 11);
            longer[10] = last;
            CHECK.due("one more, " + last, testerFirst(longer) ? 1 : 0, last == 255 ? 0 : 1);
        }
        int[] longest = java.util.Arrays.copyOf(same, 23);
        java.util.Arrays.fill(longest, 10, 23, 255);
        CHECK.no("13 more, all 255", testerFirst(longest));
        longest[22] = 254;
        CHECK.yes("13 more, the last one 254", testerFirst(longest));
        CHECK.no("one less, where the device has an 8",
                testerFirst(java.util.Arrays.copyOf(same, 8)));
    }

    private static void allAlike() {
        CHECK.by("of those that are all alike the first STATION");
        HouseWires x = new HouseWires();
        x.line(1);
        x.line(2);
        x.line(3);
        x.coupler(0, 1);
        x.coupler(0, 2);
        x.mode(0, 1);
        x.mode(1, 1);
        int[] endless = Wire.telegram(Wire.NEW_LOW, STRANGER, 5, 240, 0, 128, 1);
        Wire.send(x, 1, endless);
        Wire.send(x, 2, endless);
        x.step(1);
        Wire.send(x, 0, endless);
        CHECK.due("two couplers and the tester", x.count(11), 3);
        x.step(1);
        CHECK.due("the other coupler passes it", x.count(8), 3);
        x.step(1);
        CHECK.due("that was the first one's: it comes to the third line", x.count(10), 2);
        CHECK.due("then the second one's: the first coupler passes it", x.count(8), 4);
        x.step(1);
        CHECK.due("the tester's at last: both pass it", x.count(8), 6);
    }

    private static void layerTellsTheLength() {
        CHECK.by("It is GOOD if its LAYER (the number modulo 16) tells how many bytes it has");
        for (int length = 1; length <= 16; length++) {
            for (int told = 0; told < 16; told++) {
                int[] bytes = Wire.telegram(Wire.NEW_LOW, STRANGER, ONE, 96, new int[length]);
                int turned = bytes[5] ^ 96 + told;
                bytes[5] ^= turned;
                bytes[bytes.length - 1] ^= turned;
                CHECK.due(length + " bytes, LAYER tells " + (told + 1),
                        answer(pair(), 0, bytes), told + 1 == length ? 1 : 2);
            }
        }
    }

    private static void wrongCheck() {
        CHECK.by("and CHECK is right");
        for (int bit = 0; bit < 8; bit++) {
            for (int place : new int[] {0, 5, 8, 9}) {
                int[] bytes = write(Wire.NEW_LOW, 3);
                bytes[place] ^= 1 << bit;
                HouseWires x = pair();
                CHECK.due("bit " + bit + " of byte " + place, answer(x, 0, bytes), 2);
                CHECK.due("not done", x.updated(0, 0), 0);
            }
        }
    }

    private static void nackByAll() {
        CHECK.by("not GOOD: each NACK");
        HouseWires x = twoLines();
        CHECK.due("a coupler that would not pass it", answer(x, 0, new int[8]), 2);
        HouseWires y = new HouseWires();
        y.line(1);
        y.device(0, 1);
        y.busy(0, 1);
        CHECK.due("a device that would not take it", answer(y, 0, new int[8]), 2);
        CHECK.due("BUSY is not asked for", y.connection(0, 9), 1);
    }

    private static void nobodyHears() {
        CHECK.by("All other STATIONS but the TESTER hear it");
        HouseWires x = new HouseWires();
        x.line(1);
        CHECK.due("nobody: no NACK", answer(x, 0, new int[8]), 0);
        HouseWires y = new HouseWires();
        y.line(1);
        y.device(0, 1);
        y.object(0, 4, 31, 1);
        y.link(0, 0, 5);
        y.set(0, 0, 1);
        y.harm(0, 8, 1);
        y.step(1);
        CHECK.due("the sender does not hear it", y.count(9), 0);
        y.connect(0, ONE);
        y.step(200);
        CHECK.due("nor does it take its own", y.connection(0, 0), 0);
        CHECK.due("nor does it take its own", y.updated(0, 0), 0);
    }

    private static void others() {
        CHECK.by("others don't answer");
        HouseWires x = pair();
        x.busy(0, 1);
        CHECK.due("no link to that GROUP", answer(x, 0, Wire.toGroup(188, 6, 0, 128, 1)), 0);
        x.step(3);
        CHECK.due("another ADDRESS", answer(x, 0, Wire.toAddress(STRANGER, 259, 128)), 0);
        x.step(3);
        CHECK.due("a GROUP like its ADDRESS", answer(x, 0, Wire.toGroup(188, ONE, 0, 128, 1)), 0);
        x.step(3);
        CHECK.due("an ADDRESS like its GROUP", answer(x, 0, Wire.toAddress(STRANGER, 5, 128)), 0);
        CHECK.due("BUSY is not asked for", x.connection(0, 9), 1);
    }

    private static void busyAheadOfAll() {
        CHECK.by("BUSY by one at least: it comes to nothing as yet");
        for (int busy = 0; busy < 2; busy++) {
            HouseWires x = pair();
            x.busy(busy, 1);
            CHECK.due("device " + busy, answer(x, 0, write(Wire.NEW_LOW, 3)), 3);
            CHECK.due("it stays", x.count(11), 1);
            CHECK.due("not DONE", x.count(5), 0);
            CHECK.due("the other one did it", x.value(1 - busy, 0), 3);
            CHECK.due("this one didn't", x.value(busy, 0), 0);
        }
    }

    private static void rowOfSevenAndOfEight() {
        CHECK.by("else, if the OUT row of the DEVICE has 8");
        for (int waiting = 7; waiting <= 8; waiting++) {
            HouseWires x = new HouseWires();
            x.line(1);
            x.device(0, 1);
            x.object(0, 4, 31, 1);
            x.link(0, 0, 5);
            for (int i = 0; i < waiting; i++) {
                x.set(0, 0, i);
            }
            CHECK.due("with " + waiting, answer(x, 0, write(Wire.NEW_SYSTEM, 99)),
                    waiting == 7 ? 1 : 3);
            CHECK.due("with " + waiting, x.updated(0, 0), waiting == 7 ? 1 : 0);
            CHECK.due("still " + waiting, x.connection(0, 7), waiting);
        }
    }

    private static void busyOnceLess() {
        CHECK.by("(a DEVICE that was told to be BUSY, once less then; else, ..)");
        HouseWires x = pair();
        x.busy(0, 1);
        for (int i = 0; i < 8; i++) {
            x.set(0, 0, i);
        }
        CHECK.due("told, and full", answer(x, 0, write(Wire.NEW_SYSTEM, 1)), 3);
        CHECK.due("once less", x.connection(0, 9), 0);
        x.step(1);
        CHECK.due("full", x.count(9), 3);
        CHECK.due("not below 0", x.connection(0, 9), 0);
    }

    private static void doneAgainIfNotRepeated() {
        CHECK.by("but not if it is REPEATED");
        HouseWires x = pair();
        answer(x, 0, write(Wire.NEW_LOW, 3));
        CHECK.due("the same, not REPEATED", answer(x, 0, write(Wire.NEW_LOW, 3)), 1);
        CHECK.due("done twice", x.updated(0, 0), 2);
    }

    private static void notDoneAgain() {
        CHECK.by("and like the latest one (all bytes but CONTROL's 32 and CHECK)");
        HouseWires x = pair();
        answer(x, 0, write(Wire.NEW_LOW, 3));
        for (int i = 0; i < 3; i++) {
            CHECK.due("ACK", answer(x, 0, write(Wire.NEW_LOW - 32, 3)), 1);
            CHECK.due("not done", x.updated(0, 0), 1);
        }
        HouseWires y = pair();
        CHECK.due("REPEATED, but none was done", answer(y, 0, write(Wire.NEW_LOW - 32, 3)), 1);
        CHECK.due("done", y.updated(0, 0), 1);
        answer(y, 0, write(Wire.NEW_LOW - 32, 3));
        CHECK.due("not done twice", y.updated(0, 0), 1);
    }

    private static void likeButForOneByte() {
        CHECK.by("like the latest one (all bytes but CONTROL's 32 and CHECK)");
        int[] first = Wire.telegram(188, STRANGER, 5, 224, 0, 128, 3);
        // Each bit of CONTROL but 32, of SOURCE, HOPS and the value, with CHECK turned likewise.
        int[][] places = {{0, 1}, {0, 2}, {0, 4}, {0, 8}, {0, 16}, {0, 64}, {0, 128}, {1, 128},
            {2, 1}, {5, 16}, {5, 64}, {8, 1}, {8, 128}};
        for (int[] place : places) {
            HouseWires x = pair();
            answer(x, 0, first);
            int[] second = first.clone();
            second[0] ^= 32;
            second[place[0]] ^= place[1];
            second[9] ^= 32 ^ place[1];
            CHECK.due("byte " + place[0], answer(x, 0, second), 1);
            CHECK.due("byte " + place[0] + " by " + place[1], x.updated(0, 0), 2);
        }
    }

    private static void lengthOfTheLikeOnes() {
        CHECK.by("like the latest one (all bytes but CONTROL's 32 and CHECK)");
        HouseWires x = pair();
        x.object(0, 3, 31, 1);
        x.link(0, 1, 5);
        answer(x, 0, Wire.toGroup(188, 5, 0, 128, 0));
        CHECK.due("shorter", answer(x, 0, Wire.toGroup(156, 5, 0, 128)), 1);
        CHECK.due("done", x.updated(0, 1), 1);
        CHECK.due("longer", answer(x, 0, Wire.toGroup(156, 5, 0, 128, 0)), 1);
        CHECK.due("done", x.updated(0, 0), 2);
    }

    private static void busyIsNotDone() {
        CHECK.by("the latest one that this STATION did from this LINE");
        HouseWires x = pair();
        answer(x, 0, write(Wire.NEW_LOW, 3));
        x.busy(0, 1);
        // BUSY did not do this one, so that its latest one is still the one before.
        answer(x, 0, write(Wire.NEW_LOW - 32, 4));
        CHECK.due("BUSY", x.updated(0, 0), 1);
        x.step(1);
        CHECK.due("done then", x.updated(0, 0), 2);
        CHECK.due("the other one did it once", x.updated(1, 0), 2);
    }

    private static void sentFourTimes() {
        CHECK.by("if it was SENT four times by now, it goes as LOST");
        // 0: nobody answers, 1: NACK each time, 2: BUSY each time.
        for (int why = 0; why < 3; why++) {
            HouseWires x = pair();
            if (why == 2) {
                x.busy(1, 20);
            }
            int[] bytes = why == 0 ? Wire.toGroup(188, 6, 0, 128, 1) : write(188, 1);
            bytes[9] ^= why == 1 ? 1 : 0;
            Wire.send(x, 0, bytes);
            for (int sendings = 1; sendings <= 4; sendings++) {
                CHECK.due("sent", x.step(1), 1);
                CHECK.due("answer", x.count(9), new int[] {0, 2, 3}[why]);
                CHECK.due("LOST", x.count(6), sendings / 4);
                CHECK.due("it stays", x.count(11), sendings < 4 ? 1 : 0);
            }
            CHECK.due("no fifth time", x.step(9), 0);
            CHECK.due("not DONE", x.count(5), 0);
        }
    }

    private static void doneTheFourthTime() {
        CHECK.by("else (ACK) it is DONE. DONE: it goes out of the OUT row.");
        HouseWires x = pair();
        x.busy(1, 3);
        x.set(0, 0, 7);
        x.step(3);
        CHECK.due("BUSY three times", x.count(9), 3);
        x.step(1);
        CHECK.due("DONE", x.count(5), 1);
        CHECK.due("not LOST", x.count(6), 0);
        CHECK.due("out of the row", x.connection(0, 7), 0);
        CHECK.due("taken", x.value(1, 0), 7);
    }

    private static void repeatedAlready() {
        CHECK.by("it is REPEATED (if its CONTROL has 32, that goes, and CHECK is xor 32)");
        HouseWires x = new HouseWires();
        x.line(1);
        int[] bytes = write(Wire.NEW_LOW - 32, 1);
        Wire.send(x, 0, bytes);
        for (int sendings = 0; sendings < 4; sendings++) {
            x.step(1);
            CHECK.sent("it has no 32", x, bytes);
        }
        CHECK.due("LOST", x.count(6), 1);
        // A CHECK that is wrong stays so.
        int[] wrong = {255, 0, 0, 0, 0, 0, 0, 240};
        Wire.send(x, 0, wrong);
        x.step(1);
        CHECK.sent("first", x, wrong);
        wrong[0] = 223;
        wrong[7] = 208;
        for (int sendings = 1; sendings < 4; sendings++) {
            x.step(1);
            CHECK.sent("turned once", x, wrong);
        }
    }

    private static void nextOneIsNew() {
        CHECK.by("if it was SENT four times by now");
        HouseWires x = new HouseWires();
        x.line(1);
        Wire.send(x, 0, write(Wire.NEW_LOW, 1));
        Wire.send(x, 0, write(Wire.NEW_LOW, 2));
        x.step(4);
        CHECK.due("one is left", x.count(11), 1);
        x.step(1);
        CHECK.sent("not REPEATED", x, write(Wire.NEW_LOW, 2));
        x.step(2);
        CHECK.due("it stays", x.count(11), 1);
        x.step(1);
        CHECK.due("four times too", x.count(6), 2);
    }

    private static void hopsOfCouplers() {
        CHECK.by("HOPS one less (but 7 stays)");
        for (int hops = 0; hops < 8; hops++) {
            HouseWires x = twoLines();
            int[] bytes = Wire.telegram(Wire.NEW_LOW, STRANGER, 5, 128 + 16 * hops, 0, 129);
            CHECK.due("HOPS " + hops, answer(x, 0, bytes), hops == 0 ? 0 : 1);
            CHECK.due("passed", x.count(8), hops == 0 ? 0 : 1);
            if (hops > 0) {
                x.step(1);
                int then = hops == 7 ? 7 : hops - 1;
                CHECK.sent("HOPS " + hops, x,
                        Wire.telegram(Wire.NEW_LOW, STRANGER, 5, 128 + 16 * then, 0, 129));
                CHECK.due("on the other line", x.count(10), 1);
            }
        }
    }

    private static void hopsOfTheLongest() {
        CHECK.by("HOPS one less (but 7 stays), CHECK anew");
        for (int length : new int[] {1, 15, 16}) {
            for (int hops = 1; hops < 8; hops++) {
                HouseWires x = twoLines();
                int[] pdu = new int[length];
                pdu[length - 1] = 201;
                answer(x, 0, Wire.telegram(Wire.NEW_LOW, STRANGER, 5, 128 + 16 * hops, pdu));
                x.step(1);
                int then = hops == 7 ? 7 : hops - 1;
                CHECK.sent(length + " bytes, HOPS " + hops, x,
                        Wire.telegram(Wire.NEW_LOW, STRANGER, 5, 128 + 16 * then, pdu));
            }
        }
    }

    private static void hopsOfAddresses() {
        CHECK.by("a COUPLER, if it PASSES and HOPS are not 0");
        for (int hops : new int[] {0, 1, 7}) {
            HouseWires x = twoLines();
            int[] bytes = Wire.telegram(Wire.NEW_LOW, STRANGER, 0x0209, 16 * hops, 128);
            CHECK.due("HOPS " + hops, answer(x, 0, bytes), hops == 0 ? 0 : 1);
            x.step(1);
            int then = hops == 7 ? 112 : 0;
            int control = hops == 0 ? Wire.NEW_LOW - 32 : Wire.NEW_LOW;
            CHECK.sent("HOPS " + hops, x, Wire.telegram(control, STRANGER, 0x0209, then, 128));
        }
    }

    private static void filterAndZero() {
        CHECK.by("by its MODE: 0 those in its FILTER and 0, 1 all, 2 none");
        int[][] passing = {{1, 0, 1, 0}, {1, 1, 1, 1}, {0, 0, 0, 0}};
        int[] groups = {0, 1, 7, 65535};
        for (int mode = 0; mode < 3; mode++) {
            HouseWires x = twoLines();
            x.mode(0, mode);
            x.filter(0, 7, true);
            for (int i = 0; i < groups.length; i++) {
                int before = x.count(8);
                CHECK.due("MODE " + mode + ", GROUP " + groups[i],
                        answer(x, 0, Wire.toGroup(Wire.NEW_LOW, groups[i], 0, 128)),
                        passing[mode][i]);
                x.step(9);
                CHECK.due("MODE " + mode + ", GROUP " + groups[i], x.count(8) - before,
                        passing[mode][i]);
            }
        }
    }

    private static void wholePartOfGoal() {
        CHECK.by("of an ADDRESS: if the LINE of NUMBER GOAL / 256 (whole part) is the other one");
        int[][] cases = {{0x0200, 1}, {0x02FF, 1}, {0x01FF, 0}, {0x0300, 0}, {0, 0}, {65535, 0},
            {0x0100, 0}, {2, 0}};
        for (int[] row : cases) {
            for (int mode = 0; mode < 3; mode++) {
                HouseWires x = twoLines();
                x.mode(0, mode);
                CHECK.due("GOAL " + row[0], answer(x, 0, Wire.toAddress(STRANGER, row[0], 128)),
                        row[1]);
            }
        }
    }

    private static void withoutThisCoupler() {
        CHECK.by("or joined with it by COUPLERS without this one");
        HouseWires x = new HouseWires();
        for (int l = 0; l < 4; l++) {
            x.line(l);
        }
        x.coupler(0, 1);
        CHECK.due("not joined yet", answer(x, 0, Wire.toAddress(STRANGER, 0x0201, 128)), 0);
        x.step(3);
        x.coupler(2, 1);
        CHECK.due("joined now", answer(x, 0, Wire.toAddress(STRANGER, 0x0201, 128)), 1);
        x.step(9);
        CHECK.due("back", answer(x, 2, Wire.toAddress(STRANGER, 0x0001, 128)), 1);
        x.step(9);
        CHECK.due("its own line", answer(x, 1, Wire.toAddress(STRANGER, 0x0101, 128)), 0);
        x.step(3);
        CHECK.due("apart", answer(x, 1, Wire.toAddress(STRANGER, 0x0301, 128)), 0);
        x.step(3);
        CHECK.due("no such line", answer(x, 1, Wire.toAddress(STRANGER, 0x0401, 128)), 0);
        x.step(3);
        int before = x.count(8);
        answer(x, 1, Wire.toAddress(STRANGER, 0x0201, 128));
        CHECK.due("by the one that leads there alone", x.count(8) - before, 1);
    }

    private static void rowsOfCouplers() {
        CHECK.by("or joined with it by COUPLERS without this one");
        // 0 - 1 - 2 - 3 - 4 - 5, made in each of these orders.
        int[][] orders = {{0, 1, 2, 3, 4}, {4, 3, 2, 1, 0}, {2, 0, 4, 1, 3}, {1, 3, 0, 4, 2},
            {0, 4, 1, 3, 2}};
        for (int[] order : orders) {
            for (int from = 0; from < 6; from++) {
                HouseWires x = new HouseWires();
                for (int l = 0; l < 6; l++) {
                    x.line(l);
                }
                for (int c : order) {
                    x.coupler(c % 2 == 0 ? c : c + 1, c % 2 == 0 ? c + 1 : c);
                }
                for (int to = 0; to < 6; to++) {
                    int before = x.count(8);
                    Wire.send(x, from, Wire.toAddress(STRANGER, 256 * to + 1, 128));
                    x.step(12);
                    CHECK.due("from " + from + " to " + to, x.count(8) - before,
                            Math.abs(from - to));
                }
            }
        }
    }

    private static void allOnOneLine() {
        CHECK.by("On a LINE are STATIONS: its DEVICES, its COUPLERS, its TESTER.");
        HouseWires x = new HouseWires();
        for (int l = 0; l < 6; l++) {
            x.line(l);
        }
        for (int c = 0; c < 5; c++) {
            x.coupler(5 - c, 0);
            x.mode(c, 1);
        }
        for (int d = 0; d < 24; d++) {
            x.device(0, 1 + d);
            x.object(d, 4, 31, 1);
            x.link(d, 0, 5);
        }
        CHECK.due("ACK", answer(x, 0, write(Wire.NEW_LOW, 9)), 1);
        CHECK.due("all couplers pass it", x.count(8), 5);
        for (int d = 0; d < 24; d++) {
            CHECK.due("device " + d, x.value(d, 0), 9);
        }
        CHECK.due("five wait", x.count(11), 5);
        x.busy(23, 1);
        Wire.send(x, 0, write(Wire.NEW_LOW, 9));
        x.step(1);
        CHECK.due("BUSY by the last device", x.connection(23, 9), 0);
        CHECK.due("BUSY by the last device", x.updated(23, 0), 1);
        CHECK.due("the others did it", x.updated(22, 0), 2);
    }

    private static void notPassedAgain() {
        CHECK.by("REPEATED and like the latest one that this STATION did from this LINE");
        HouseWires x = twoLines();
        CHECK.due("passed", answer(x, 1, write(Wire.NEW_LOW, 1)), 1);
        x.step(4);
        CHECK.due("not again, but ACK", answer(x, 1, write(Wire.NEW_LOW - 32, 1)), 1);
        CHECK.due("not again", x.count(8), 1);
        x.step(4);
        CHECK.due("from the other line", answer(x, 0, write(Wire.NEW_LOW - 32, 1)), 1);
        CHECK.due("from the other line", x.count(8), 2);
        x.step(4);
        answer(x, 1, write(Wire.NEW_LOW - 32, 1));
        CHECK.due("that line's latest is the same still", x.count(8), 2);
        answer(x, 1, write(Wire.NEW_LOW, 1));
        CHECK.due("not REPEATED", x.count(8), 3);
        answer(x, 1, write(Wire.NEW_LOW - 32, 2));
        CHECK.due("another one", x.count(8), 4);
        answer(x, 1, write(Wire.NEW_LOW - 32, 1));
        CHECK.due("not the latest any more", x.count(8), 5);
    }

    private static void passedAsNew() {
        CHECK.by("it comes into its OUT row there, not REPEATED, CHECK anew");
        HouseWires x = twoLines();
        int control = 0b10011111 & ~32;
        answer(x, 0, Wire.telegram(control, STRANGER, 5, 128 + 16, 0, 129));
        x.step(1);
        CHECK.sent("with 32", x, Wire.telegram(control | 32, STRANGER, 5, 128, 0, 129));
        x.step(1);
        CHECK.sent("it is REPEATED there in its turn", x,
                Wire.telegram(control, STRANGER, 5, 128, 0, 129));
        x.step(2);
        CHECK.due("four times there", x.count(6), 1);
        CHECK.due("and once here", x.count(4), 5);
    }

    private static void dropped() {
        CHECK.by("Into an OUT row that has 8 nothing more comes (it is DROPPED).");
        HouseWires x = pair();
        for (int o = 1; o < 12; o++) {
            x.object(0, 4, 31, 1);
            x.link(0, o, 5);
        }
        CHECK.due("ACK", answer(x, 0, Wire.toGroup(Wire.NEW_LOW, 5, 0, 0)), 1);
        CHECK.due("eight of twelve", x.connection(0, 7), 8);
        CHECK.due("four are DROPPED", x.count(7), 4);
        CHECK.due("none of the other one", x.connection(1, 7), 1);
        CHECK.due("in all rows", x.count(11), 9);
        HouseWires y = pair();
        for (int o = 1; o < 8; o++) {
            y.object(0, 4, 31, 1);
            y.link(0, o, 5);
        }
        answer(y, 0, Wire.toGroup(Wire.NEW_LOW, 5, 0, 0));
        CHECK.due("just eight", y.connection(0, 7), 8);
        CHECK.due("none is DROPPED", y.count(7), 0);
    }
}

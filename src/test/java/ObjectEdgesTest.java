/** The edges of part 3, OBJECTS, and of promises 7 to 15: a method for each sentence. */
public final class ObjectEdgesTest {
    private static final Check CHECK = new Check("ObjectEdgesTest");
    private static final int C = 1;
    private static final int R = 2;
    private static final int W = 4;
    private static final int T = 8;
    private static final int U = 16;
    private static final int[] BITS = {1, 2, 4, 6, 8, 16, 24, 32};
    private static final int[] FAR = {Integer.MIN_VALUE, Integer.MAX_VALUE};

    public static void main(String[] args) {
        twelveObjects();
        sizesOfObjects();
        flagsOfNewObjects();
        prioritiesOfObjects();
        noSuchDevice();
        noSuchObject();
        otherFlags();
        twentyFourLinks();
        groupsOfLinks();
        justThisLink();
        firstLinkIsOwn();
        valueAtFirst();
        lowestBits();
        setWithoutC();
        setWithoutOwnGroup();
        setWithEight();
        setWithEightWithoutSending();
        askWithout();
        askWithEight();
        valueNotBelowZero();
        updatedByTelegramsAlone();
        updatedByTheSameValue();
        sixBitsAndEight();
        firstByteOfAGroupTelegram();
        secondByteOfAGroupTelegram();
        actsBySecondByte();
        askOfTwoBytes();
        asManyBytes();
        lowestBitsOfWhatCame();
        tellGoesToThisGroup();
        tellForEachLink();
        hundredthsOfEnds();
        hundredthsOfOthers();
        pointAtEachStep();
        pointOfNoSuchE();
        pointOfOthers();
        pointWithEight();
        CHECK.end();
    }

    /** A line of NUMBER 1 with devices 1 and 2, without objects. */
    private static HouseWires house() {
        HouseWires x = new HouseWires();
        x.line(1);
        x.device(0, 1);
        x.device(0, 2);
        return x;
    }

    /** Device 0 has an object of that size, of PRIORITY NORMAL, in group 5. */
    private static HouseWires withObject(int size, int flags) {
        HouseWires x = house();
        x.object(0, size, flags, 1);
        x.link(0, 0, 5);
        return x;
    }

    private static HouseWires withEightWaiting(int size) {
        HouseWires x = withObject(size, 31);
        for (int i = 1; i <= 8; i++) {
            x.set(0, 0, i);
        }
        return x;
    }

    private static int hear(HouseWires x, int group, int... pdu) {
        Wire.send(x, 0, Wire.toGroup(Wire.NEW_SYSTEM, group, pdu));
        x.step(1);
        return x.count(9);
    }

    private static void twelveObjects() {
        CHECK.by("OBJECTS of a DEVICE (at most 12, numbered from 0 on)");
        HouseWires x = house();
        for (int o = 0; o < 12; o++) {
            CHECK.due("object", x.object(0, 7, 0, 0), o);
        }
        CHECK.due("a 13th", x.object(0, 7, 0, 0), -1);
        CHECK.due("how many", x.connection(0, 10), 12);
        CHECK.due("the 12th", x.value(0, 11), 0);
        CHECK.due("no 13th", x.value(0, 12), -1);
        CHECK.due("another device's", x.object(1, 7, 0, 0), 0);
    }

    private static void sizesOfObjects() {
        CHECK.by("size 0 to 7 (as they were told above, in that order)");
        HouseWires x = house();
        for (int size : new int[] {-1, 8, 16, 32, FAR[0], FAR[1]}) {
            CHECK.due("size " + size, x.object(0, size, 0, 0), -1);
        }
        CHECK.due("how many", x.connection(0, 10), 0);
        for (int size = 0; size < 8; size++) {
            CHECK.due("size " + size, x.object(0, size, 0, 0), size);
            x.set(0, size, -1);
            CHECK.due("its bits", x.value(0, size), (1L << BITS[size]) - 1);
        }
    }

    private static void flagsOfNewObjects() {
        CHECK.by("flags 0 to 31");
        HouseWires x = house();
        for (int flags : new int[] {-1, 32, FAR[0], FAR[1]}) {
            CHECK.due("flags " + flags, x.object(0, 0, flags, 0), -1);
        }
        CHECK.due("how many", x.connection(0, 10), 0);
        CHECK.due("flags 0", x.object(0, 0, 0, 0), 0);
        CHECK.due("flags 31", x.object(0, 0, 31, 0), 1);
        x.link(0, 0, 5);
        x.link(0, 1, 5);
        CHECK.due("0 sends nothing", x.set(0, 0, 1), 0);
        CHECK.due("31 sends", x.set(0, 1, 1), 1);
    }

    private static void prioritiesOfObjects() {
        CHECK.by("priority 0 to 3");
        HouseWires x = house();
        for (int priority : new int[] {-1, 4, FAR[0], FAR[1]}) {
            CHECK.due("priority " + priority, x.object(0, 0, 31, priority), -1);
        }
        CHECK.due("how many", x.connection(0, 10), 0);
        for (int priority = 0; priority < 4; priority++) {
            CHECK.due("priority " + priority, x.object(0, 0, 31, priority), priority);
            x.link(0, priority, 5);
            x.set(0, priority, 1);
            x.step(1);
            CHECK.due("CONTROL", x.sent(0), 176 + 4 * priority);
            x.step(3);
        }
    }

    private static void noSuchDevice() {
        CHECK.by("NONE for others");
        HouseWires x = withObject(5, 31);
        for (int d : new int[] {-1, 2, 24, FAR[0], FAR[1]}) {
            CHECK.due("object", x.object(d, 0, 0, 0), -1);
            CHECK.no("flags", x.flags(d, 0, 0));
            CHECK.no("link", x.link(d, 0, 6));
            CHECK.due("set", x.set(d, 0, 1), -1);
            CHECK.due("ask", x.ask(d, 0), -1);
            CHECK.due("value", x.value(d, 0), -1);
            CHECK.due("updated", x.updated(d, 0), -1);
            CHECK.due("hundredths", x.hundredths(d, 0), Long.MIN_VALUE);
            CHECK.due("point", x.point(d, 0, 1), -1);
        }
        CHECK.due("nothing waits", x.count(11), 0);
        CHECK.due("nothing is set", x.value(0, 0), 0);
    }

    private static void noSuchObject() {
        CHECK.by("NONE: no such OBJECT");
        HouseWires x = withObject(5, 31);
        for (int o : new int[] {-1, 1, 12, FAR[0], FAR[1]}) {
            CHECK.no("flags", x.flags(0, o, 0));
            CHECK.no("link", x.link(0, o, 6));
            CHECK.due("set", x.set(0, o, 1), -1);
            CHECK.due("ask", x.ask(0, o), -1);
            CHECK.due("value", x.value(0, o), -1);
            CHECK.due("updated", x.updated(0, o), -1);
            CHECK.due("hundredths", x.hundredths(0, o), Long.MIN_VALUE);
            CHECK.due("point", x.point(0, o, 1), -1);
        }
        CHECK.due("a device without objects", x.value(1, 0), -1);
        CHECK.due("nothing waits", x.count(11), 0);
        CHECK.due("links", x.connection(0, 11), 1);
    }

    private static void otherFlags() {
        CHECK.by("An OBJECT's FLAGS are others.");
        HouseWires x = withObject(4, C | T);
        for (int flags : new int[] {-1, 32, FAR[0], FAR[1]}) {
            CHECK.no("flags " + flags, x.flags(0, 0, flags));
        }
        CHECK.due("as before", x.set(0, 0, 1), 1);
        CHECK.yes("0", x.flags(0, 0, 0));
        CHECK.due("without C and T", x.set(0, 0, 2), 1);
        CHECK.yes("31", x.flags(0, 0, 31));
        CHECK.due("with all", x.set(0, 0, 3), 2);
    }

    private static void twentyFourLinks() {
        CHECK.by("LINKS of a DEVICE (at most 24, in their order)");
        HouseWires x = house();
        for (int o = 0; o < 2; o++) {
            x.object(0, 0, 31, 1);
        }
        x.object(1, 0, 31, 1);
        for (int i = 0; i < 24; i++) {
            CHECK.yes("link", x.link(0, i % 2, 100 + i));
        }
        CHECK.no("a 25th", x.link(0, 0, 200));
        CHECK.no("a 25th of another object", x.link(0, 1, 200));
        CHECK.due("how many", x.connection(0, 11), 24);
        CHECK.yes("another device's", x.link(1, 0, 200));
        CHECK.due("the 24th", hear(x, 123, 0, 129), 1);
        CHECK.due("its object", x.updated(0, 1), 1);
        CHECK.due("no 25th", x.updated(0, 0), 0);
    }

    private static void groupsOfLinks() {
        CHECK.by("LINKS are of an OBJECT to a GROUP (1 to 65535)");
        HouseWires x = house();
        x.object(0, 0, 31, 1);
        for (int group : new int[] {0, -1, 65536, FAR[0], FAR[1]}) {
            CHECK.no("group " + group, x.link(0, 0, group));
        }
        CHECK.due("how many", x.connection(0, 11), 0);
        CHECK.due("no OWN GROUP", x.ask(0, 0), -1);
        CHECK.yes("group 1", x.link(0, 0, 1));
        CHECK.yes("group 65535", x.link(0, 0, 65535));
        CHECK.due("to 1", hear(x, 1, 0, 129), 1);
        CHECK.due("to 65535", hear(x, 65535, 0, 129), 1);
        CHECK.due("both", x.updated(0, 0), 2);
        CHECK.due("to 0", hear(x, 0, 0, 129), 0);
    }

    private static void justThisLink() {
        CHECK.by("or there is just this one already");
        HouseWires x = house();
        x.object(0, 0, 31, 1);
        x.object(0, 0, 31, 1);
        x.object(1, 0, 31, 1);
        CHECK.yes("first", x.link(0, 0, 5));
        CHECK.no("just this one", x.link(0, 0, 5));
        CHECK.yes("another group", x.link(0, 0, 6));
        CHECK.yes("another object", x.link(0, 1, 5));
        CHECK.yes("another device", x.link(1, 0, 5));
        CHECK.no("just this one, later", x.link(0, 0, 5));
        CHECK.due("how many", x.connection(0, 11), 3);
        CHECK.due("done once for each link", hear(x, 5, 0, 129), 1);
        CHECK.due("once", x.updated(0, 0), 1);
    }

    private static void firstLinkIsOwn() {
        CHECK.by("the first one of an OBJECT tells its OWN GROUP");
        HouseWires x = house();
        x.object(0, 0, 31, 1);
        x.object(0, 0, 31, 1);
        x.link(0, 1, 9);
        x.link(0, 0, 8);
        x.link(0, 0, 7);
        x.link(0, 1, 6);
        x.set(0, 0, 1);
        x.step(1);
        CHECK.due("of object 0", x.sent(4), 8);
        x.step(3);
        x.ask(0, 1);
        x.step(1);
        CHECK.due("of object 1", x.sent(4), 9);
    }

    private static void valueAtFirst() {
        CHECK.by("a VALUE (of so many bits, at first 0)");
        HouseWires x = withObject(7, 31);
        CHECK.due("at first", x.value(0, 0), 0);
        CHECK.due("UPDATED at first", x.updated(0, 0), 0);
        hear(x, 5, 0, 0);
        x.step(1);
        CHECK.sent("told", x, Wire.telegram(180, 257, 5, 224, 0, 64, 0, 0, 0, 0));
    }

    private static void lowestBits() {
        CHECK.by("An OBJECT's VALUE becomes v's lowest bits");
        for (int size = 0; size < 8; size++) {
            HouseWires x = house();
            x.object(0, size, 0, 0);
            long all = (1L << BITS[size]) - 1;
            for (long v : new long[] {0, 1, all, all + 1, all + 2, -1, FAR[0], FAR[1]}) {
                CHECK.due("set", x.set(0, 0, (int) v), 0);
                CHECK.due("size " + size + " of " + v, x.value(0, 0), (int) v & all);
            }
        }
    }

    private static void setWithoutC() {
        CHECK.by("if FLAGS have C and T");
        for (int flags = 0; flags < 32; flags++) {
            HouseWires x = withObject(4, flags);
            boolean sends = (flags & C) != 0 && (flags & T) != 0;
            CHECK.due("flags " + flags, x.set(0, 0, 7), sends ? 1 : 0);
            CHECK.due("it is set", x.value(0, 0), 7);
            CHECK.due("flags " + flags, x.ask(0, 0), sends ? 2 : -1);
        }
    }

    private static void setWithoutOwnGroup() {
        CHECK.by("and it has an OWN GROUP");
        HouseWires x = house();
        x.object(0, 4, 31, 1);
        x.object(0, 4, 31, 1);
        x.link(0, 1, 5);
        CHECK.due("without", x.set(0, 0, 7), 0);
        CHECK.due("it is set", x.value(0, 0), 7);
        CHECK.due("with", x.set(0, 1, 7), 1);
        CHECK.due("without, how many that has", x.set(0, 0, 8), 1);
    }

    private static void setWithEight() {
        CHECK.by("-2: it would send, and the OUT row has 8");
        HouseWires x = withEightWaiting(4);
        CHECK.due("a ninth", x.set(0, 0, 99), -2);
        CHECK.due("eight", x.connection(0, 7), 8);
        CHECK.due("nothing is changed", x.value(0, 0), 8);
        CHECK.due("nor dropped", x.count(7), 0);
        CHECK.due("no such object, with 8", x.set(0, 1, 99), -1);
        x.step(4);
        CHECK.due("room for one", x.set(0, 0, 99), 8);
        CHECK.due("it is set", x.value(0, 0), 99);
    }

    private static void setWithEightWithoutSending() {
        CHECK.by("-2: it would send, and the OUT row has 8");
        HouseWires x = withEightWaiting(4);
        x.object(0, 4, 31, 1);
        CHECK.due("no OWN GROUP", x.set(0, 1, 99), 8);
        CHECK.due("it is set", x.value(0, 1), 99);
        x.flags(0, 0, 31 - T);
        CHECK.due("no T", x.set(0, 0, 98), 8);
        CHECK.due("it is set", x.value(0, 0), 98);
        x.flags(0, 0, 31 - C);
        CHECK.due("no C", x.set(0, 0, 97), 8);
        CHECK.due("it is set", x.value(0, 0), 97);
    }

    private static void askWithout() {
        CHECK.by("NONE: no such OBJECT, FLAGS lack C or T, no OWN GROUP");
        HouseWires x = house();
        x.object(0, 4, 31, 1);
        CHECK.due("no OWN GROUP", x.ask(0, 0), -1);
        x.link(0, 0, 5);
        CHECK.due("with one", x.ask(0, 0), 1);
        x.flags(0, 0, 31 - C);
        CHECK.due("no C", x.ask(0, 0), -1);
        x.flags(0, 0, 31 - T);
        CHECK.due("no T", x.ask(0, 0), -1);
        x.flags(0, 0, C | T);
        CHECK.due("just these", x.ask(0, 0), 2);
        CHECK.due("two wait", x.count(11), 2);
    }

    private static void askWithEight() {
        CHECK.by("-2 likewise");
        HouseWires x = withEightWaiting(4);
        CHECK.due("a ninth", x.ask(0, 0), -2);
        CHECK.due("eight", x.count(11), 8);
        CHECK.due("nor dropped", x.count(7), 0);
        CHECK.due("no such object, with 8", x.ask(0, 1), -1);
        x.object(0, 4, 31, 1);
        CHECK.due("no OWN GROUP, with 8", x.ask(0, 1), -1);
        x.flags(0, 0, 31 - T);
        CHECK.due("no T, with 8", x.ask(0, 0), -1);
        x.flags(0, 0, 31);
        x.step(4);
        CHECK.due("room for one", x.ask(0, 0), 8);
    }

    private static void valueNotBelowZero() {
        CHECK.by("An OBJECT's VALUE as a number that is not below 0");
        HouseWires x = withObject(7, 31);
        x.flags(0, 0, 31 - T);
        x.set(0, 0, -1);
        CHECK.due("all bits", x.value(0, 0), 4294967295L);
        x.set(0, 0, Integer.MIN_VALUE);
        CHECK.due("the highest bit", x.value(0, 0), 2147483648L);
        hear(x, 5, 0, 128, 255, 255, 255, 254);
        CHECK.due("as it came", x.value(0, 0), 4294967294L);
    }

    private static void updatedByTelegramsAlone() {
        CHECK.by("How often an OBJECT was UPDATED");
        HouseWires x = withObject(4, 31);
        x.set(0, 0, 1);
        x.point(0, 0, 1);
        x.step(4);
        CHECK.due("not by set", x.updated(0, 0), 0);
        hear(x, 5, 0, 0);
        CHECK.due("not by ASK", x.updated(0, 0), 0);
        x.step(4);
        hear(x, 5, 0, 128, 1);
        CHECK.due("by WRITE", x.updated(0, 0), 1);
        hear(x, 5, 0, 64, 1);
        CHECK.due("by TELL", x.updated(0, 0), 2);
    }

    private static void updatedByTheSameValue() {
        CHECK.by("its VALUE is the lowest bits of what came; it is UPDATED once more");
        HouseWires x = withObject(4, 31);
        for (int i = 1; i <= 3; i++) {
            hear(x, 5, 0, 128, 0);
            CHECK.due("the same value", x.updated(0, 0), i);
        }
        CHECK.due("the same value", x.value(0, 0), 0);
    }

    private static void sixBitsAndEight() {
        CHECK.by("TELL and WRITE of up to 6 bits add the VALUE there, others have it behind");
        HouseWires x = withObject(3, 31);
        x.set(0, 0, 63);
        x.step(1);
        CHECK.sent("6 bits", x, Wire.telegram(180, 257, 5, 224, 0, 128 + 63));
        HouseWires y = withObject(4, 31);
        y.set(0, 0, 63);
        y.step(1);
        CHECK.sent("8 bits", y, Wire.telegram(180, 257, 5, 224, 0, 128, 63));
        HouseWires z = withObject(7, 31);
        z.set(0, 0, 0x81020384);
        z.step(1);
        CHECK.sent("32 bits", z, Wire.telegram(180, 257, 5, 224, 0, 128, 0x81, 2, 3, 0x84));
        HouseWires w = withObject(3, 31);
        w.flags(0, 0, 31 - T);
        w.set(0, 0, 63);
        hear(w, 5, 0, 0);
        w.step(1);
        CHECK.sent("6 bits told", w, Wire.telegram(180, 257, 5, 224, 0, 64 + 63));
    }

    private static void firstByteOfAGroupTelegram() {
        CHECK.by("A DEVICE does one (PDU's first byte 0, a second one)");
        for (int first : new int[] {0, 1, 64, 128, 255}) {
            HouseWires x = withObject(3, 31);
            CHECK.due("ACK", hear(x, 5, first, 128 + 9), 1);
            CHECK.due("first byte " + first, x.value(0, 0), first == 0 ? 9 : 0);
            CHECK.due("first byte " + first, x.updated(0, 0), first == 0 ? 1 : 0);
        }
    }

    private static void secondByteOfAGroupTelegram() {
        CHECK.by("A DEVICE does one (PDU's first byte 0, a second one)");
        HouseWires x = withObject(0, 31);
        CHECK.due("one byte: ACK", hear(x, 5, 0), 1);
        CHECK.due("nothing is told", x.connection(0, 7), 0);
        CHECK.due("nor written", x.updated(0, 0), 0);
    }

    private static void actsBySecondByte() {
        CHECK.by("ACT is its second byte / 64. (An ACT of 3 does nothing.)");
        for (int second = 0; second < 256; second++) {
            HouseWires x = withObject(3, 31);
            CHECK.due("ACK", hear(x, 5, 0, second), 1);
            int act = second / 64;
            CHECK.due("told for " + second, x.connection(0, 7), act == 0 ? 1 : 0);
            CHECK.due("updated for " + second, x.updated(0, 0), act == 1 || act == 2 ? 1 : 0);
            CHECK.due("value for " + second, x.value(0, 0),
                    act == 1 || act == 2 ? second % 64 : 0);
        }
        HouseWires u = withObject(3, C | U);
        hear(u, 5, 0, 127);
        hear(u, 5, 0, 128);
        CHECK.due("TELL by U, WRITE not", u.value(0, 0), 63);
        HouseWires w = withObject(3, C | W);
        hear(w, 5, 0, 191);
        hear(w, 5, 0, 64);
        CHECK.due("WRITE by W, TELL not", w.value(0, 0), 63);
        HouseWires r = withObject(3, 31 - R);
        hear(r, 5, 0, 0);
        CHECK.due("ASK by R", r.connection(0, 7), 0);
        HouseWires c = withObject(3, 31 - C);
        hear(c, 5, 0, 0);
        hear(c, 5, 0, 65);
        hear(c, 5, 0, 129);
        CHECK.due("none without C", c.connection(0, 7) + c.updated(0, 0), 0);
    }

    private static void askOfTwoBytes() {
        CHECK.by("ASK (PDU of two bytes)");
        for (int length = 1; length <= 16; length++) {
            HouseWires x = withObject(4, 31);
            CHECK.due("ACK", hear(x, 5, new int[length]), 1);
            CHECK.due("of " + length + " bytes", x.connection(0, 7), length == 2 ? 1 : 0);
            CHECK.due("of " + length + " bytes", x.updated(0, 0), 0);
        }
    }

    private static void asManyBytes() {
        CHECK.by("TELL, WRITE, of so many bytes as the OBJECT's have");
        for (int size = 0; size < 8; size++) {
            int due = BITS[size] < 8 ? 2 : 2 + BITS[size] / 8;
            for (int length = 2; length <= 16; length++) {
                for (int act = 1; act <= 2; act++) {
                    HouseWires x = withObject(size, 31);
                    int[] pdu = new int[length];
                    pdu[1] = 64 * act + 1;
                    pdu[length - 1] |= 1;
                    CHECK.due("ACK", hear(x, 5, pdu), 1);
                    CHECK.due("size " + size + ", " + length + " bytes", x.updated(0, 0),
                            length == due ? 1 : 0);
                    CHECK.due("size " + size + ", " + length + " bytes", x.value(0, 0),
                            length == due ? 1 : 0);
                }
            }
        }
    }

    private static void lowestBitsOfWhatCame() {
        CHECK.by("its VALUE is the lowest bits of what came");
        for (int size = 0; size < 8; size++) {
            HouseWires x = withObject(size, 31);
            int behind = BITS[size] < 8 ? 0 : BITS[size] / 8;
            int[] pdu = new int[2 + behind];
            java.util.Arrays.fill(pdu, 1, pdu.length, 255);
            pdu[1] = 191;
            hear(x, 5, pdu);
            CHECK.due("all bits of size " + size, x.value(0, 0), (1L << BITS[size]) - 1);
        }
    }

    private static void tellGoesToThisGroup() {
        CHECK.by("a TELL with the VALUE of that OBJECT, of its PRIORITY, to this GROUP");
        HouseWires x = house();
        x.object(0, 2, C | R, 3);
        x.link(0, 0, 5);
        x.link(0, 0, 65535);
        x.set(0, 0, 9);
        hear(x, 65535, 0, 0);
        x.step(1);
        CHECK.sent("not its OWN GROUP", x, Wire.telegram(188, 257, 65535, 224, 0, 64 + 9));
    }

    private static void tellForEachLink() {
        CHECK.by("For each LINK to that GROUP, in order");
        HouseWires x = house();
        for (int o = 0; o < 3; o++) {
            x.object(0, 2, C | R, 1);
            x.set(0, o, 10 + o);
        }
        x.link(0, 2, 5);
        x.link(0, 0, 6);
        x.link(0, 1, 5);
        x.link(0, 0, 5);
        hear(x, 5, 0, 0);
        CHECK.due("three", x.connection(0, 7), 3);
        for (int o : new int[] {2, 1, 0}) {
            x.step(1);
            CHECK.due("in their order", x.sent(7), 64 + 10 + o);
            x.step(3);
        }
    }

    private static void hundredthsOfEnds() {
        CHECK.by("bit 15 s, bits 11 to 14 e, bits 0 to 10 m: (m - 2048 s) times 2^e");
        HouseWires x = house();
        x.object(0, 5, 0, 0);
        int[][] cases = {{0, 0}, {1, 1}, {2047, 2047}, {2048, 0}, {2049, 2}, {30720, 0},
            {32767, 67076096}, {32768, -2048}, {34815, -1}, {34816, -4096}, {63488, -67108864},
            {65535, -32768}};
        for (int[] row : cases) {
            x.set(0, 0, row[0]);
            CHECK.due("of " + row[0], x.hundredths(0, 0), row[1]);
        }
    }

    private static void hundredthsOfOthers() {
        CHECK.by("Long.MIN_VALUE: no such OBJECT, another SIZE");
        HouseWires x = house();
        for (int size = 0; size < 8; size++) {
            x.object(0, size, 0, 0);
            CHECK.due("size " + size, x.hundredths(0, size), size == 5 ? 0 : Long.MIN_VALUE);
        }
        CHECK.due("no such object", x.hundredths(0, 8), Long.MIN_VALUE);
    }

    private static void pointAtEachStep() {
        CHECK.by("e is the least for which v / 2^e, cut down to a whole number, is -2048 to 2047");
        for (int e = 0; e < 16; e++) {
            HouseWires x = house();
            x.object(0, 5, 0, 0);
            int step = 1 << e;
            // The ends of what e can tell, and beside them what the lesser e can't tell any more.
            int[] all = {2048 * step - 1, 2047 * step, -2048 * step, 1 - 2048 * step};
            int[] cut = {2047, 2047, -2048, -2048};
            if (e == 0) {
                cut[3] = -2047;
            }
            for (int i = 0; i < all.length; i++) {
                CHECK.due("point", x.point(0, 0, all[i]), 0);
                CHECK.due("of " + all[i], x.value(0, 0),
                        2048 * e + (cut[i] < 0 ? 32768 + 2048 + cut[i] : cut[i]));
                CHECK.due("of " + all[i], x.hundredths(0, 0), (long) cut[i] * step);
            }
            if (e > 0) {
                CHECK.due("point", x.point(0, 0, 1024 * step), 0);
                CHECK.due("the least", x.value(0, 0), 2048 * e + 1024);
                CHECK.due("point", x.point(0, 0, -1024 * step - 1), 0);
                CHECK.due("the least below 0", x.value(0, 0), 2048 * e + 32768 + 2048 - 1025);
            }
        }
    }

    private static void pointOfNoSuchE() {
        CHECK.by("or there is no such e (0 to 15)");
        HouseWires x = withObject(5, 31);
        x.point(0, 0, 5);
        for (int v : new int[] {2048 << 15, -(2048 << 15) - 1, FAR[0], FAR[1]}) {
            CHECK.due("of " + v, x.point(0, 0, v), -1);
            CHECK.due("as before", x.value(0, 0), 5);
            CHECK.due("as before", x.connection(0, 7), 1);
        }
        CHECK.due("the greatest", x.point(0, 0, (2048 << 15) - 1), 2);
        CHECK.due("the greatest", x.value(0, 0), 32767);
        CHECK.due("the least", x.point(0, 0, -(2048 << 15)), 3);
        CHECK.due("the least", x.value(0, 0), 63488);
    }

    private static void pointOfOthers() {
        CHECK.by("NONE: no such OBJECT, another SIZE");
        HouseWires x = house();
        for (int size = 0; size < 8; size++) {
            x.object(0, size, 0, 0);
            x.set(0, size, 1);
            CHECK.due("size " + size, x.point(0, size, 0), size == 5 ? 0 : -1);
            CHECK.due("size " + size, x.value(0, size), size == 5 ? 0 : 1);
        }
        CHECK.due("no such object", x.point(0, 8, 0), -1);
    }

    private static void pointWithEight() {
        CHECK.by("else what set() answers");
        HouseWires x = withEightWaiting(5);
        CHECK.due("it would send", x.point(0, 0, 99), -2);
        CHECK.due("nothing is changed", x.value(0, 0), 8);
        CHECK.due("no such e, with 8", x.point(0, 0, FAR[1]), -1);
        x.flags(0, 0, 0);
        CHECK.due("it would not send", x.point(0, 0, 99), 8);
        CHECK.due("it is set", x.value(0, 0), 99);
    }
}

/** Telegrams for tests: their bytes, and how they come into a tester's row. */
final class Wire {
    static final int NEW_SYSTEM = 176;
    static final int NEW_NORMAL = 180;
    static final int NEW_URGENT = 184;
    static final int NEW_LOW = 188;
    static final int REPEATED = 32;

    private Wire() {
    }

    /** A telegram with a right LAYER and CHECK; of a group, if hops are 128 + 16 h, else 16 h. */
    static int[] telegram(int control, int source, int goal, int hops, int... pdu) {
        int[] bytes = new int[7 + pdu.length];
        bytes[0] = control;
        bytes[1] = source >> 8;
        bytes[2] = source & 255;
        bytes[3] = goal >> 8;
        bytes[4] = goal & 255;
        bytes[5] = hops + pdu.length - 1;
        System.arraycopy(pdu, 0, bytes, 6, pdu.length);
        int xor = 0;
        for (int i = 0; i < bytes.length - 1; i++) {
            xor ^= bytes[i];
        }
        bytes[bytes.length - 1] = 255 - xor;
        return bytes;
    }

    static int[] toGroup(int control, int group, int... pdu) {
        return telegram(control, 0x6363, group, 128 + 96, pdu);
    }

    static int[] toAddress(int source, int goal, int... pdu) {
        return telegram(NEW_SYSTEM, source, goal, 96, pdu);
    }

    /** Puts bytes on the TAPE alone, and the TAPE into the row of a line's tester. */
    static int send(HouseWires x, int line, int... bytes) {
        fill(x, bytes);
        return x.raw(line);
    }

    static void fill(HouseWires x, int... bytes) {
        x.end(0);
        for (int from = 0; from < bytes.length; from += 20) {
            x.feed(word(bytes, from), word(bytes, from + 4), word(bytes, from + 8),
                    word(bytes, from + 12), word(bytes, from + 16));
        }
        x.end(bytes.length);
    }

    private static int word(int[] bytes, int from) {
        int word = 0;
        for (int i = from; i < from + 4; i++) {
            word = word << 8 | (i < bytes.length ? bytes[i] : 0);
        }
        return word;
    }
}

import java.util.NoSuchElementException;

/** Counts and prints the answers that are not the ones that are due. */
final class Check {
    static final int THROWS = -1000;

    private static final int MOST_PRINTED = 100;

    private final String name;
    private String sentence = "";
    private int wrong;

    Check(String name) {
        this.name = name;
    }

    /** The document's sentence by which the next answers are due; it is printed with wrong ones. */
    void by(String told) {
        sentence = "'" + told + "' ";
    }

    void due(String what, long got, long want) {
        if (got != want) {
            wrong++;
            if (wrong <= MOST_PRINTED) {
                System.out.println(name + ": " + sentence + what + " answered " + got
                        + ", due is " + want);
            }
        }
    }

    void yes(String what, boolean got) {
        due(what, got ? 1 : 0, 1);
    }

    void no(String what, boolean got) {
        due(what, got ? 1 : 0, 0);
    }

    /** The bytes of the telegram sent latest, against those that are due. */
    void sent(String what, HouseWires x, int... want) {
        due(what + ", bytes", x.sent(HouseWires.NONE), want.length);
        for (int k = 0; k < want.length; k++) {
            due(what + ", byte " + k, sentOrThrows(x, k), want[k]);
        }
    }

    static int sentOrThrows(HouseWires x, int k) {
        try {
            return x.sent(k);
        } catch (NoSuchElementException e) {
            return THROWS;
        }
    }

    static int stepOrThrows(HouseWires x, int n) {
        try {
            return x.step(n);
        } catch (IllegalArgumentException e) {
            return THROWS;
        }
    }

    void end() {
        System.out.println(name + ": " + wrong + " wrong answers");
        if (wrong > 0) {
            System.exit(1);
        }
    }
}

/** Counts and prints the answers that are not the ones that are due. */
final class Due {
    private static final int MOST_PRINTED = 50;

    private int asked = 0;
    private int wrong = 0;

    int asked() {
        return asked;
    }

    void is(String call, long got, long want) {
        asked++;
        if (got == want) {
            return;
        }
        wrong++;
        if (wrong <= MOST_PRINTED) {
            System.out.println(call + " answered " + got + ", due is " + want);
        }
    }

    void same(String what, String got, String want) {
        asked++;
        if (want.equals(got)) {
            return;
        }
        wrong++;
        if (wrong <= MOST_PRINTED) {
            System.out.println(what + " is '" + got + "', due is '" + want + "'");
        }
    }

    void holds(String what, boolean truth) {
        is(what, truth ? 1 : 0, 1);
    }

    /** The four parts of a register, told as one row. */
    void parts(String what, FourParts x, int s, long... want) {
        for (int i = 0; i < 4; i++) {
            is(what + ": part " + i + " of register " + s, x.part(s, i), want[i]);
        }
    }

    void end() {
        System.out.println((asked - wrong) + " answers as due, " + wrong + " not");
        if (wrong != 0) {
            System.exit(1);
        }
    }
}

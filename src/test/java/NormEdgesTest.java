/** Promises 16 and 17, edge by edge: the last that is allowed, the first that is not, and what a refusal leaves. */
public final class NormEdgesTest {
    private static final int BAD = Edge.BAD, NONE = Edge.NONE;
    private static final int MIN = Edge.MIN, MAX = Edge.MAX;
    private static final int[] NO_NORM = {0, -1, 201, MIN, MAX};

    private static final Due due = new Due();
    private static final Edge edge = new Edge(due);

    public static void main(String[] args) {
        manyNorms();
        manyThings();
        listedNumbers();
        listedNorms();
        listedFirstAndLast();
        listedOrder();
        due.end();
    }

    // ---- promise 16: many

    /** "n from 1 to 200". */
    private static void manyNorms() {
        int[][] want = {{24, 8, 24}, {744, 744, 0}};
        for (int k = 0; k <= 2; k++) {
            int what = k;
            edge.refuses("of the NORM 1", x -> x.many(1, what), want[0][what]);
            edge.refuses("of the NORM 200", x -> x.many(200, what), want[1][what]);
            for (int n : NO_NORM) {
                edge.refuses("of the NORM " + n, x -> x.many(n, what), BAD);
            }
        }
    }

    private static void manyThings() {
        int[] want = {4800, 1600, 4800};
        int[] wantOf169 = {24 * (1 + 13 + 169), 8 * (1 + 13 + 169), 24 * (13 + 169)};
        for (int k = 0; k <= 2; k++) {
            int what = k;
            edge.refuses("of the NORM 199", x -> x.many(199, what), want[what]);
            edge.refuses("of the square of 13", x -> x.many(169, what), wantOf169[what]);
        }
        for (int what : new int[] {-1, 3, MIN, MAX}) {
            edge.refuses("no such thing " + what, x -> x.many(199, what), BAD);
            for (int n : NO_NORM) {
                edge.refuses("neither", x -> x.many(n, what), BAD);
            }
        }
    }

    // ---- promise 17: listed

    private static void listedNumbers() {
        edge.changes("into 0", x -> x.listed(0, 3, 0), 1, "register 0", "3 1 1 1");
        edge.changes("into 15", x -> x.listed(15, 3, 1), 1, "register 15", "3 1 1 -1");
        for (int s : Edge.NO_REGISTER) {
            edge.refuses("no register " + s, x -> x.listed(s, 3, 0), BAD);
        }
    }

    private static void listedNorms() {
        edge.changes("of the NORM 1", x -> x.listed(3, 1, 0), 1, "register 3", "2 0 0 0");
        edge.changes("of the NORM 200", x -> x.listed(3, 200, 0), 1, "register 3", "28 4 0 0");
        for (int n : NO_NORM) {
            edge.refuses("of the NORM " + n, x -> x.listed(3, n, 0), BAD);
        }
    }

    /** "the i-th NUMBER (from 0)", "NONE; BAD: also i below 0". */
    private static void listedFirstAndLast() {
        int[][] norms = {{1, 24}, {2, 24}, {3, 96}, {4, 24}, {195, 8064}, {199, 4800}, {200, 744}};
        String[] last = {"-2 0 0 0", "-2 -2 0 0", "-3 -1 -1 -1", "-4 0 0 0", "-27 -7 -1 -1", "-28 -2 -2 -2",
            "-28 -4 0 0"};
        for (int k = 0; k < norms.length; k++) {
            int n = norms[k][0];
            int count = norms[k][1];
            edge.changes("the last of " + n, x -> x.listed(3, n, count - 1), 1, "register 3", last[k]);
            for (int i : new int[] {count, count + 1, MAX}) {
                edge.refuses("number " + i + " of " + n, x -> x.listed(3, n, i), NONE);
            }
            for (int i : new int[] {-1, MIN}) {
                edge.refuses("number " + i + " of " + n, x -> x.listed(3, n, i), BAD);
            }
        }
    }

    /** Taken so (README): what is BAD is BAD also where, but for that, there were NONE. */
    private static void listedOrder() {
        for (int s : Edge.NO_REGISTER) {
            edge.refuses("BAD ahead of NONE", x -> x.listed(s, 1, 24), BAD);
            edge.refuses("BAD ahead of NONE", x -> x.listed(s, 1, MAX), BAD);
        }
        for (int n : NO_NORM) {
            edge.refuses("BAD ahead of NONE", x -> x.listed(3, n, MAX), BAD);
        }
    }
}

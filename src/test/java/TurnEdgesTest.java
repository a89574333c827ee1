/** Promises 18 and 19, edge by edge: the last that is allowed, the first that is not; nothing changes ever. */
public final class TurnEdgesTest {
    private static final int BAD_TURN = -2000000000, TURN_OF_ZERO = -2000000001;
    private static final int MIN = Edge.MIN, MAX = Edge.MAX;
    private static final int[] NO_ROW = {-1, 3, MIN, MAX};
    private static final int[] NO_POINT = {-101, 101, MIN, MAX};

    private static final Due due = new Due();
    private static final Edge edge = new Edge(due);

    public static void main(String[] args) {
        turnNumbers();
        turnOfZero();
        turnOfTheHighest();
        turnOrder();
        turnedNumbers();
        turnedPoints();
        turnedOfZero();
        turnedOfTheHighest();
        due.end();
    }

    // ---- promise 18: turn

    private static void turnNumbers() {
        int[][] want = {{12, 4, 6}, {4, 6, -12}, {-6, 12, 4}};
        for (int r = 0; r <= 2; r++) {
            for (int c = 0; c <= 2; c++) {
                int i = r;
                int j = c;
                edge.refuses("row " + i + ", column " + j, x -> x.turn(0, i, j), want[i][j]);
                edge.refuses("of 15", x -> x.turn(15, i, j), turnBy(new long[] {8, 6, 4, 2}, i, j));
            }
        }
        for (int wrong : NO_ROW) {
            edge.refuses("no row " + wrong, x -> x.turn(0, wrong, 0), BAD_TURN);
            edge.refuses("no column " + wrong, x -> x.turn(0, 0, wrong), BAD_TURN);
        }
        for (int s : Edge.NO_REGISTER) {
            edge.refuses("no register " + s, x -> x.turn(s, 0, 0), BAD_TURN);
        }
    }

    private static long turnBy(long[] q, int i, int j) {
        long[] v = new long[4];
        v[j + 1] = 2;
        return Model.product(Model.product(q, v), Model.mirror(q))[i + 1] / 2;
    }

    private static void turnOfZero() {
        for (int r = 0; r <= 2; r++) {
            for (int c = 0; c <= 2; c++) {
                int i = r;
                int j = c;
                edge.refuses("of 0", x -> x.turn(2, i, j), TURN_OF_ZERO);
                edge.refuses("of 1", x -> x.turn(9, i, j), i == j ? 1 : 0);
            }
        }
    }

    private static void turnOfTheHighest() {
        edge.refuses("the most", x -> x.turn(3, 0, 2), 400000000);
        edge.refuses("of the lowest", x -> x.turn(4, 1, 0), 400000000);
        edge.after(x -> x.set(0, 20000, 20000, 20000, -20000)).refuses("the least", x -> x.turn(0, 2, 0), -400000000);
    }

    private static void turnOrder() {
        for (int wrong : NO_ROW) {
            edge.refuses("BAD ahead of NO", x -> x.turn(2, wrong, 0), BAD_TURN);
            edge.refuses("BAD ahead of NO", x -> x.turn(2, 0, wrong), BAD_TURN);
        }
    }

    // ---- promise 19: turned

    private static void turnedNumbers() {
        long[] want = {652, -1136, 514};
        for (int r = 0; r <= 2; r++) {
            int i = r;
            edge.refuses("row " + i, x -> x.turned(0, 1, 10, 100, i), want[i]);
            edge.after(x -> x.set(15, 6, 4, 2, 0)).refuses("of 15", x -> x.turned(15, 1, 10, 100, i), want[i]);
        }
        for (int wrong : NO_ROW) {
            edge.refuses("no row " + wrong, x -> x.turned(0, 1, 10, 100, wrong), -1);
            edge.refuses("no row " + wrong + ", of 0", x -> x.turned(2, 1, 10, 100, wrong), -1);
        }
        for (int s : Edge.NO_REGISTER) {
            edge.refuses("no register " + s, x -> x.turned(s, 1, 10, 100, 0), -1);
        }
    }

    /** "each from -100 to 100". */
    private static void turnedPoints() {
        int[] row = {12, 4, 6};
        for (int k = 0; k < 3; k++) {
            int at = k;
            for (int last : new int[] {-100, 100}) {
                int[] p = {0, 0, 0};
                p[at] = last;
                edge.refuses("just a point", x -> x.turned(0, p[0], p[1], p[2], 0), (long) last * row[at]);
                edge.refuses("just a point, of 0", x -> x.turned(2, p[0], p[1], p[2], 0), 0);
            }
            for (int first : NO_POINT) {
                int[] p = {0, 0, 0};
                p[at] = first;
                edge.refuses("no point", x -> x.turned(0, p[0], p[1], p[2], 0), -1);
                edge.refuses("no point, of 0", x -> x.turned(2, p[0], p[1], p[2], 0), -1);
            }
        }
    }

    /** "it is 0: 0". */
    private static void turnedOfZero() {
        for (int r = 0; r <= 2; r++) {
            int i = r;
            edge.refuses("of 0", x -> x.turned(2, 100, -100, 100, i), 0);
            edge.refuses("of 0", x -> x.turned(2, 0, 0, 0, i), 0);
            edge.refuses("0 of what is not 0", x -> x.turned(0, 0, 0, 0, i), 0);
        }
    }

    private static void turnedOfTheHighest() {
        edge.refuses("beyond an int", x -> x.turned(3, 100, 100, 100, 0), 40000000000L);
        edge.refuses("beyond an int, below 0", x -> x.turned(3, 100, 100, -100, 0), -40000000000L);
        edge.after(x -> x.set(0, 20000, 10000, 10000, 0)).refuses("three of a row",
            x -> x.turned(0, 100, 100, 100, 0), 25000000000L);
    }
}

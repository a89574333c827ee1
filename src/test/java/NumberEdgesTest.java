/** Promises 7 to 13, edge by edge: the last that is allowed, the first that is not, and what a refusal leaves. */
public final class NumberEdgesTest {
    private static final int BAD = Edge.BAD, NO = Edge.NO, HIGH = Edge.HIGH, NONE = Edge.NONE;
    private static final int BAD_PART = -1000000000;
    private static final int MIN = Edge.MIN, MAX = Edge.MAX;
    private static final int RIGHT = 0, LEFT = 1;

    private static final Due due = new Due();
    private static final Edge edge = new Edge(due);

    public static void main(String[] args) {
        setNumbers();
        setHalves();
        setHigh();
        setOrder();
        partNumbers();
        partNorm();
        partPrimitive();
        partUnit();
        workNumbers();
        workInPlace();
        workSumHigh();
        workDifferenceHigh();
        workProductHigh();
        workMirrorIsNeverHigh();
        workOrder();
        unitNumbers();
        unitHigh();
        unitOrder();
        divideNumbers();
        divideByZero();
        divideAsTheyWere();
        divideNearest();
        divideHigh();
        divideOrder();
        divisorNumbers();
        divisorOfZero();
        divisorHigh();
        divisorOrder();
        likeNumbers();
        likeNone();
        due.end();
    }

    private static int set(FourParts x, int s, int[] q) {
        return x.set(s, q[0], q[1], q[2], q[3]);
    }

    private static int[] one(int fellow, int i, int one) {
        int[] q = {fellow, fellow, fellow, fellow};
        q[i] = one;
        return q;
    }

    private static String text(int... q) {
        return q[0] + " " + q[1] + " " + q[2] + " " + q[3];
    }

    private static Edge with(int[]... numbers) {
        return edge.after(x -> {
            for (int s = 0; s < numbers.length; s++) {
                due.is("set " + text(numbers[s]), set(x, s, numbers[s]), 0);
            }
        });
    }

    private static int[] q(int a, int b, int c, int d) {
        return new int[] {a, b, c, d};
    }

    // ---- promise 7: set

    private static void setNumbers() {
        edge.changes("register 0", x -> x.set(0, 1, -3, 5, -7), 0, "register 0", "1 -3 5 -7");
        edge.changes("register 15", x -> x.set(15, 2, -4, 6, -8), 0, "register 15", "2 -4 6 -8");
        edge.changes("0", x -> x.set(3, 0, 0, 0, 0), 0, "register 3", "0 0 0 0");
        for (int s : Edge.NO_REGISTER) {
            edge.refuses("no register " + s, x -> x.set(s, 2, 2, 2, 0), BAD);
        }
    }

    /** "NO: not all even or all odd". */
    private static void setHalves() {
        for (int i = 0; i < 4; i++) {
            int[] odd = one(2, i, 2 * i - 3);
            edge.refuses("one odd", x -> set(x, 0, odd), NO);
            int[] even = one(-1, i, 2 * i - 4);
            edge.refuses("one even", x -> set(x, 0, even), NO);
        }
        edge.refuses("two and two", x -> x.set(0, 1, 1, 2, 2), NO);
        edge.refuses("two and two", x -> x.set(0, 1, 2, 1, 2), NO);
        edge.refuses("two and two", x -> x.set(0, 1, 2, 2, 1), NO);
        edge.changes("all odd, on both sides of 0", x -> x.set(0, -1, 1, -3, 3), 0, "register 0", "-1 1 -3 3");
        edge.changes("all even, on both sides of 0", x -> x.set(0, 0, -2, 4, -6), 0, "register 0", "0 -2 4 -6");
    }

    private static void setHigh() {
        for (int i = 0; i < 4; i++) {
            for (int last : new int[] {20000, -20000, 19999, -19999}) {
                int[] held = one(2 + (last & 1), i, last);
                edge.changes("just held " + text(held), x -> set(x, 1, held), 0, "register 1", text(held));
            }
            for (int first : new int[] {20001, -20001, 20002, -20002, MIN, MIN + 1, MAX - 1, MAX}) {
                int[] high = one(2 + (first & 1), i, first);
                edge.refuses("HIGH " + text(high), x -> set(x, 1, high), HIGH);
            }
        }
    }

    private static void setOrder() {
        for (int s : Edge.NO_REGISTER) {
            edge.refuses("BAD ahead of NO", x -> x.set(s, 1, 2, 3, 4), BAD);
            edge.refuses("BAD ahead of HIGH", x -> x.set(s, 20002, 0, 0, 0), BAD);
        }
        for (int i = 0; i < 4; i++) {
            for (int high : new int[] {20001, -20001, MAX}) {
                int[] both = one(2, i, high);
                edge.refuses("NO ahead of HIGH", x -> set(x, 1, both), NO);
            }
            int[] apart = one(1, i, MIN);
            edge.refuses("NO ahead of HIGH", x -> set(x, 1, apart), NO);
        }
    }

    // ---- promise 8: part

    private static void partNumbers() {
        int[] want = {6, 4, 2, 0, 14, 1, NONE};
        int[] wantOf15 = {8, 6, 4, 2, 30, 1, NONE};
        for (int i = 0; i <= 6; i++) {
            int what = i;
            edge.refuses("part(0, " + what + ")", x -> x.part(0, what), want[what]);
            edge.refuses("part(15, " + what + ")", x -> x.part(15, what), wantOf15[what]);
            for (int s : Edge.NO_REGISTER) {
                edge.refuses("no register " + s, x -> x.part(s, what), BAD_PART);
            }
        }
        for (int what : new int[] {-1, 7, MIN, MAX}) {
            edge.refuses("no such thing " + what, x -> x.part(0, what), BAD_PART);
            edge.refuses("neither", x -> x.part(16, what), BAD_PART);
        }
    }

    private static void partNorm() {
        edge.refuses("the highest", x -> x.part(3, 4), 400000000);
        edge.refuses("the highest, below 0", x -> x.part(4, 4), 400000000);
        edge.refuses("odd ones", x -> x.part(7, 4), 199980001);
        edge.refuses("of 0", x -> x.part(2, 4), 0);
        edge.refuses("of a UNIT", x -> x.part(1, 4), 1);
        edge.refuses("of a UNIT", x -> x.part(9, 4), 1);
    }

    /** "a NUMBER that is not 0, if no whole above 1 times a NUMBER is it": twice a UNIT of halves is not, 1 + i is. */
    private static void partPrimitive() {
        int[][] are = {{2, 0, 0, 0}, {0, 0, 0, -2}, {1, 1, 1, 1}, {-1, -1, -1, -1}, {2, 2, 2, 0}, {4, 2, 2, 2},
            {2, 2, 2, -4}, {6, 6, 6, 4}, {9, 9, 9, 3 + 2}, {20000, 20000, 20000, 19998}, {19999, 19999, 19999, 1},
            {19946, 2, 0, 0}, {0, 20000, 0, 6}, {-20000, 14, 14, 14}};
        for (int[] parts : are) {
            with(parts).refuses("PRIMITIVE " + text(parts), x -> x.part(0, 5), 1);
        }
        int[][] areNot = {{0, 0, 0, 0}, {2, 2, 2, 2}, {2, -2, 6, 2}, {-2, -2, -2, -2}, {4, 0, 0, 0}, {0, 0, -4, 0},
            {4, 4, 4, 0}, {4, 4, 8, 4}, {6, 0, 0, 0}, {3, 3, 3, 3}, {-3, 3, 9, 15}, {6, 12, 0, 0}, {10, 0, 20, 0},
            {19997, 19997, 19997, -19997}, {19946, 0, 0, 0}, {9973, 9973, -9973, 9973}, {20000, 0, 0, 0},
            {20000, 20000, 20000, 20000}, {0, 0, 0, -20000}, {8, 16, 24, 32}};
        for (int[] parts : areNot) {
            with(parts).refuses("not PRIMITIVE " + text(parts), x -> x.part(0, 5), 0);
        }
    }

    private static void partUnit() {
        edge.refuses("the UNIT 1", x -> x.part(1, 6), 1);
        edge.refuses("the last UNIT", x -> x.part(9, 6), 23);
        with(q(2, 0, 0, 0)).refuses("the first UNIT", x -> x.part(0, 6), 0);
        edge.refuses("0 is none", x -> x.part(2, 6), NONE);
        edge.refuses("of the NORM 2", x -> x.part(12, 6), NONE);
        edge.refuses("of the NORM 3", x -> x.part(5, 6), NONE);
        edge.refuses("the highest", x -> x.part(3, 6), NONE);
    }

    // ---- promise 9: work

    private static void workNumbers() {
        String[] want = {"9 5 3 1", "3 3 1 -1", "6 10 4 4", "6 -4 -2 0"};
        for (int k = 0; k <= 3; k++) {
            int how = k;
            edge.changes("into 0", x -> x.work(0, how, 0, 5), 0, "register 0", want[how]);
            edge.changes("into 15", x -> x.work(15, how, 0, 5), 0, "register 15", want[how]);
            edge.after(x -> x.set(15, 6, 4, 2, 0)).changes("of 15", x -> x.work(1, how, 15, 5), 0,
                "register 1", want[how]);
            edge.after(x -> x.set(15, 3, 1, 1, 1)).changes("with 15", x -> x.work(1, how, 0, 15), 0,
                "register 1", want[how]);
            for (int wrong : Edge.NO_REGISTER) {
                edge.refuses("into no register " + wrong, x -> x.work(wrong, how, 0, 5), BAD);
                edge.refuses("of no register " + wrong, x -> x.work(1, how, wrong, 5), BAD);
            }
        }
        for (int wrong : Edge.NO_REGISTER) {
            for (int k = 0; k <= 2; k++) {
                int how = k;
                edge.refuses("with no register " + wrong, x -> x.work(1, how, 0, wrong), BAD);
            }
            edge.changes("u is not looked at", x -> x.work(1, 3, 0, wrong), 0, "register 1", want[3]);
        }
        for (int how : new int[] {-1, 4, MIN, MAX}) {
            edge.refuses("no such work " + how, x -> x.work(1, how, 0, 5), BAD);
        }
    }

    private static void workInPlace() {
        String[][] want = {{"9 5 3 1", "9 5 3 1", "12 8 4 0"}, {"3 3 1 -1", "3 3 1 -1", "0 0 0 0"},
            {"6 10 4 4", "6 10 4 4", "8 24 12 0"}, {"6 -4 -2 0", "6 -4 -2 0", "6 -4 -2 0"}};
        for (int k = 0; k <= 3; k++) {
            int how = k;
            edge.changes("s is t", x -> x.work(0, how, 0, 5), 0, "register 0", want[how][0]);
            edge.changes("s is u", x -> x.work(5, how, 0, 5), 0, "register 5", want[how][1]);
            edge.changes("all are one", x -> x.work(0, how, 0, 0), 0, "register 0", want[how][2]);
            edge.changes("t is u", x -> x.work(1, how, 0, 0), 0, "register 1", want[how][2]);
        }
    }

    private static void workSumHigh() {
        for (int i = 0; i < 4; i++) {
            for (int sign : new int[] {1, -1}) {
                int[] two = one(0, i, 2 * sign);
                int[] below = one(0, i, 19998 * sign);
                int[] most = one(0, i, 20000 * sign);
                int[] half = one(1, i, sign);
                with(below, two).changes("just held", x -> x.work(2, 0, 0, 1), 0, "register 2", text(most));
                with(most, two).refuses("HIGH", x -> x.work(2, 0, 0, 1), HIGH);
                with(two, most).refuses("HIGH into one of both", x -> x.work(0, 0, 0, 1), HIGH);
                with(below, half).changes("just held", x -> x.work(2, 0, 0, 1), 0,
                    "register 2", text(one(1, i, 19999 * sign)));
                with(most, half).refuses("HIGH by a half", x -> x.work(2, 0, 0, 1), HIGH);
                with(most).refuses("HIGH with itself", x -> x.work(0, 0, 0, 0), HIGH);
            }
        }
    }

    private static void workDifferenceHigh() {
        for (int i = 0; i < 4; i++) {
            for (int sign : new int[] {1, -1}) {
                int[] two = one(0, i, -2 * sign);
                int[] below = one(0, i, 19998 * sign);
                int[] most = one(0, i, 20000 * sign);
                int[] half = one(-1, i, -sign);
                with(below, two).changes("just held", x -> x.work(2, 1, 0, 1), 0, "register 2", text(most));
                with(most, two).refuses("HIGH", x -> x.work(2, 1, 0, 1), HIGH);
                with(two, most).refuses("HIGH into one of both", x -> x.work(1, 1, 1, 0), HIGH);
                with(below, half).changes("just held", x -> x.work(2, 1, 0, 1), 0,
                    "register 2", text(one(1, i, 19999 * sign)));
                with(most, half).refuses("HIGH by a half", x -> x.work(2, 1, 0, 1), HIGH);
            }
        }
    }

    private static void workProductHigh() {
        for (int i = 0; i < 4; i++) {
            for (int sign : new int[] {4, -4}) {
                int[] turner = one(0, i, sign);
                int[] most = one(0, i, 5000 * sign);
                with(q(10000, 0, 0, 0), turner).changes("just held", x -> x.work(2, 2, 0, 1), 0,
                    "register 2", text(most));
                with(q(10000, 0, 0, 0), turner).changes("just held", x -> x.work(2, 2, 1, 0), 0,
                    "register 2", text(most));
                with(q(10001, 1, 1, 1), turner).refuses("HIGH", x -> x.work(2, 2, 0, 1), HIGH);
                with(q(10001, 1, 1, 1), turner).refuses("HIGH", x -> x.work(0, 2, 0, 1), HIGH);
                with(q(10001, 1, 1, 1), turner).refuses("HIGH", x -> x.work(1, 2, 1, 0), HIGH);
            }
        }
        edge.changes("all just held", x -> x.work(1, 2, 10, 6), 0, "register 1", "20000 20000 20000 20000");
        edge.refuses("the highest with itself", x -> x.work(3, 2, 3, 3), HIGH);
        edge.refuses("the highest with the lowest", x -> x.work(0, 2, 3, 4), HIGH);
        edge.changes("with 0", x -> x.work(1, 2, 3, 2), 0, "register 1", "0 0 0 0");
    }

    private static void workMirrorIsNeverHigh() {
        edge.changes("of the highest", x -> x.work(1, 3, 3, 0), 0, "register 1", "20000 -20000 -20000 -20000");
        edge.changes("of the lowest", x -> x.work(1, 3, 4, 0), 0, "register 1", "-20000 20000 20000 20000");
        edge.changes("in place", x -> x.work(7, 3, 7, 0), 0, "register 7", "19999 19999 -1 1");
        edge.changes("of 0", x -> x.work(1, 3, 2, 0), 0, "register 1", "0 0 0 0");
    }

    private static void workOrder() {
        for (int wrong : Edge.NO_REGISTER) {
            for (int k = 0; k <= 2; k++) {
                int how = k;
                edge.refuses("BAD ahead of HIGH", x -> x.work(wrong, how, 3, 4), BAD);
            }
        }
        for (int how : new int[] {-1, 4, MIN, MAX}) {
            edge.refuses("BAD ahead of HIGH", x -> x.work(0, how, 3, 3), BAD);
        }
    }

    // ---- promise 10: unit

    private static void unitNumbers() {
        edge.changes("the first UNIT", x -> x.unit(1, 0, 0, 0), 0, "register 1", "6 4 2 0");
        edge.changes("the last UNIT", x -> x.unit(1, 0, 23, 0), 0, "register 1", "-6 -4 -2 0");
        edge.changes("the last UNIT", x -> x.unit(1, 0, 23, 1), 0, "register 1", "-6 -4 -2 0");
        edge.changes("t u", x -> x.unit(1, 0, 1, 0), 0, "register 1", "0 6 2 4");
        edge.changes("u t", x -> x.unit(1, 0, 1, 1), 0, "register 1", "0 4 6 2");
        edge.changes("into 15", x -> x.unit(15, 0, 1, 0), 0, "register 15", "0 6 2 4");
        edge.changes("of 15, in place", x -> x.unit(15, 15, 23, 0), 0, "register 15", "-8 -6 -4 -2");
        edge.changes("of 0, in place", x -> x.unit(0, 0, 1, 1), 0, "register 0", "0 4 6 2");
        for (int wrong : Edge.NO_REGISTER) {
            edge.refuses("into no register " + wrong, x -> x.unit(wrong, 0, 1, 0), BAD);
            edge.refuses("of no register " + wrong, x -> x.unit(1, wrong, 1, 0), BAD);
        }
        for (int u : new int[] {-1, 24, MIN, MAX}) {
            edge.refuses("no UNIT " + u, x -> x.unit(1, 0, u, 0), BAD);
            edge.refuses("no UNIT " + u, x -> x.unit(1, 0, u, 1), BAD);
        }
        for (int side : Edge.NO_SIDE) {
            edge.refuses("no side " + side, x -> x.unit(1, 0, 1, side), BAD);
        }
    }

    private static void unitHigh() {
        for (int k = 0; k <= 1; k++) {
            int side = k;
            with(q(20000, 20000, 0, 0)).changes("just held", x -> x.unit(1, 0, 8, side), 0,
                "register 1", side == 0 ? "20000 0 0 -20000" : "20000 0 -20000 0");
            with(q(20000, 20000, 2, 0)).refuses("HIGH", x -> x.unit(1, 0, 8, side), HIGH);
            with(q(20000, 20000, 2, 0)).refuses("HIGH in place", x -> x.unit(0, 0, 8, side), HIGH);
            with(q(-20000, -20000, 0, 0)).changes("just held", x -> x.unit(1, 0, 8, side), 0,
                "register 1", side == 0 ? "-20000 0 0 20000" : "-20000 0 20000 0");
            with(q(-20000, -20000, -2, 0)).refuses("HIGH below", x -> x.unit(1, 0, 8, side), HIGH);
            edge.refuses("HIGH, the highest", x -> x.unit(1, 3, 8, side), HIGH);
            edge.changes("the highest just held", x -> x.unit(1, 3, 1, side), 0,
                "register 1", "-20000 20000 20000 20000");
            edge.changes("the highest by -1", x -> x.unit(3, 3, 23, side), 0,
                "register 3", "-20000 -20000 -20000 -20000");
        }
    }

    private static void unitOrder() {
        for (int wrong : Edge.NO_REGISTER) {
            edge.refuses("BAD ahead of HIGH", x -> x.unit(wrong, 3, 8, 0), BAD);
        }
        for (int side : Edge.NO_SIDE) {
            edge.refuses("BAD ahead of HIGH", x -> x.unit(1, 3, 8, side), BAD);
        }
    }

    // ---- promise 11: divide

    private static void divideNumbers() {
        Edge near = with(q(-8, 4, 30, -14), q(1, 3, 5, -7), q(6, 4, 2, 0));
        near.changes("on the RIGHT", x -> x.divide(3, 4, 0, 1, RIGHT), 0,
            "register 3", "6 4 2 0", "register 4", "0 0 0 0");
        near.changes("on the LEFT", x -> x.divide(3, 4, 0, 2, LEFT), 0,
            "register 3", "1 3 5 -7", "register 4", "0 0 0 0");
        near.changes("into 15 and 0", x -> x.divide(15, 0, 0, 1, RIGHT), 0,
            "register 15", "6 4 2 0", "register 0", "0 0 0 0");
        near.changes("into 0 and 15", x -> x.divide(0, 15, 0, 1, RIGHT), 0,
            "register 0", "6 4 2 0", "register 15", "0 0 0 0");
        edge.changes("of 15", x -> x.divide(3, 4, 15, 9, LEFT), 0,
            "register 3", "-8 -6 -4 -2", "register 4", "0 0 0 0");
        edge.changes("by 15", x -> x.divide(3, 4, 15, 15, LEFT), 0,
            "register 3", "2 0 0 0", "register 4", "0 0 0 0");
        for (int wrong : Edge.NO_REGISTER) {
            near.refuses("q into no register " + wrong, x -> x.divide(wrong, 4, 0, 1, 0), BAD);
            near.refuses("REST into no register " + wrong, x -> x.divide(3, wrong, 0, 1, 0), BAD);
            near.refuses("of no register " + wrong, x -> x.divide(3, 4, wrong, 1, 0), BAD);
            near.refuses("by no register " + wrong, x -> x.divide(3, 4, 0, wrong, 0), BAD);
        }
        for (int side : Edge.NO_SIDE) {
            near.refuses("no side " + side, x -> x.divide(3, 4, 0, 1, side), BAD);
        }
        for (int s = 0; s < 16; s++) {
            int both = s;
            near.refuses("s is r", x -> x.divide(both, both, 0, 1, 0), BAD);
            near.refuses("s is r", x -> x.divide(both, both, 0, 1, 1), BAD);
        }
    }

    private static void divideByZero() {
        for (int k = 0; k <= 1; k++) {
            int side = k;
            edge.refuses("by 0", x -> x.divide(1, 5, 0, 2, side), NO);
            edge.refuses("the highest by 0", x -> x.divide(1, 5, 3, 2, side), NO);
            edge.refuses("0 by 0", x -> x.divide(1, 5, 2, 2, side), NO);
            edge.changes("0 by what is not 0", x -> x.divide(1, 5, 2, 0, side), 0,
                "register 1", "0 0 0 0", "register 5", "0 0 0 0");
        }
    }

    /** "(of t, u as they were)". */
    private static void divideAsTheyWere() {
        String[] want = {"4 0 -2 0", "0 0 0 -2", "4 0 -2 0", "0 0 0 2"};
        for (int k = 0; k <= 1; k++) {
            int side = k;
            Edge both = with(q(6, 4, 2, 0), q(2, 2, 2, 0));
            String quotient = want[2 * side];
            String rest = want[2 * side + 1];
            both.changes("q into t", x -> x.divide(0, 9, 0, 1, side), 0, "register 0", quotient, "register 9", rest);
            both.changes("q into u", x -> x.divide(1, 9, 0, 1, side), 0, "register 1", quotient, "register 9", rest);
            both.changes("REST into t", x -> x.divide(9, 0, 0, 1, side), 0, "register 9", quotient, "register 0", rest);
            both.changes("REST into u", x -> x.divide(9, 1, 0, 1, side), 0, "register 9", quotient, "register 1", rest);
            both.changes("into t and u", x -> x.divide(0, 1, 0, 1, side), 0,
                "register 0", quotient, "register 1", rest);
            both.changes("into u and t", x -> x.divide(1, 0, 0, 1, side), 0,
                "register 1", quotient, "register 0", rest);
            both.changes("by itself, q into it", x -> x.divide(0, 1, 0, 0, side), 0,
                "register 0", "2 0 0 0", "register 1", "0 0 0 0");
            both.changes("by itself, REST into it", x -> x.divide(1, 0, 0, 0, side), 0,
                "register 1", "2 0 0 0", "register 0", "0 0 0 0");
        }
    }

    /** "a half goes up", "a whole goes up", "of like ones the first": by 2, 4 and 1 + i, and just beside these. */
    private static void divideNearest() {
        int[] two = q(4, 0, 0, 0);
        int[] four = q(8, 0, 0, 0);
        int[] hundred = q(200, 0, 0, 0);
        nearest("a half goes up", q(2, 0, 0, 0), two, "2 0 0 0", "-2 0 0 0");
        nearest("a half goes up, below 0", q(-2, 0, 0, 0), two, "0 0 0 0", "-2 0 0 0");
        nearest("a half goes up, below -1", q(0, -6, 0, 0), two, "0 -2 0 0", "0 -2 0 0");
        nearest("two halves, like ones: the wholes", q(2, 2, 0, 0), two, "2 2 0 0", "-2 -2 0 0");
        nearest("two halves below 0", q(0, 0, -2, -2), two, "0 0 0 0", "0 0 -2 -2");
        nearest("three halves: a whole goes up", q(2, 2, 2, 0), two, "1 1 1 1", "0 0 0 -2");
        nearest("a whole goes up, below 0", q(-2, -2, -2, -4), two, "-1 -1 -1 -1", "0 0 0 -2");
        nearest("four halves", q(2, -2, 6, -6), two, "1 -1 3 -3", "0 0 0 0");
        nearest("all quarters, like ones: the wholes", q(2, 2, 2, 2), four, "0 0 0 0", "2 2 2 2");
        nearest("just below a half", q(98, 0, 0, 0), hundred, "0 0 0 0", "98 0 0 0");
        nearest("just above a half", q(102, 0, 0, 0), hundred, "2 0 0 0", "-98 0 0 0");
        nearest("just above minus a half", q(-98, 0, 0, 0), hundred, "0 0 0 0", "-98 0 0 0");
        nearest("just below minus a half", q(-102, 0, 0, 0), hundred, "-2 0 0 0", "98 0 0 0");
        nearest("just below quarters", q(48, 50, 50, 50), hundred, "0 0 0 0", "48 50 50 50");
        nearest("just above quarters", q(52, 50, 50, 50), hundred, "1 1 1 1", "-48 -50 -50 -50");
    }

    private static void nearest(String name, int[] t, int[] u, String quotient, String rest) {
        Edge both = with(t, u);
        both.changes(name, x -> x.divide(2, 3, 0, 1, RIGHT), 0, "register 2", quotient, "register 3", rest);
        both.changes(name, x -> x.divide(2, 3, 0, 1, LEFT), 0, "register 2", quotient, "register 3", rest);
    }

    private static void divideHigh() {
        for (int k = 0; k <= 1; k++) {
            int side = k;
            int[] unit = q(1, 1, 1, 1);
            with(q(20000, 20000, 0, 0), unit).changes("q just held", x -> x.divide(3, 4, 0, 1, side), 0,
                "register 3", side == RIGHT ? "20000 0 0 -20000" : "20000 0 -20000 0", "register 4", "0 0 0 0");
            with(q(20000, 20000, 2, 0), unit).refuses("q HIGH", x -> x.divide(3, 4, 0, 1, side), HIGH);
            with(q(20000, 20000, 2, 0), unit).refuses("q HIGH, in place", x -> x.divide(0, 1, 0, 1, side), HIGH);
            with(q(20000, 20000, 2, 0), unit).refuses("q HIGH, in place", x -> x.divide(1, 0, 0, 1, side), HIGH);
            with(q(-20000, -20000, -2, 0), unit).refuses("q HIGH below", x -> x.divide(3, 4, 0, 1, side), HIGH);
            edge.refuses("the highest", x -> x.divide(0, 5, 3, 1, side), HIGH);
            edge.changes("the highest by -1", x -> x.divide(0, 5, 3, 9, side), 0,
                "register 0", "-20000 -20000 -20000 -20000", "register 5", "0 0 0 0");
            edge.changes("the highest by the lowest", x -> x.divide(0, 5, 3, 4, side), 0,
                "register 0", "-2 0 0 0", "register 5", "0 0 0 0");
        }
        edge.after(x -> x.set(0, 0, 20000, 20000, 0)).changes("a REST just held", x -> x.divide(1, 5, 0, 3, RIGHT), 0,
            "register 1", "2 0 2 0", "register 5", "0 -20000 -20000 0");
    }

    private static void divideOrder() {
        edge.refuses("s is r ahead of NO", x -> x.divide(1, 1, 0, 2, 0), BAD);
        edge.refuses("s is r ahead of HIGH", x -> x.divide(1, 1, 3, 1, 0), BAD);
        for (int wrong : Edge.NO_REGISTER) {
            edge.refuses("BAD ahead of NO", x -> x.divide(wrong, 5, 0, 2, 0), BAD);
            edge.refuses("BAD ahead of NO", x -> x.divide(1, wrong, 0, 2, 0), BAD);
            edge.refuses("BAD ahead of NO", x -> x.divide(1, 5, wrong, 2, 0), BAD);
            edge.refuses("BAD ahead of HIGH", x -> x.divide(wrong, 5, 3, 1, 0), BAD);
            edge.refuses("BAD ahead of HIGH", x -> x.divide(1, wrong, 3, 1, 0), BAD);
        }
        for (int side : Edge.NO_SIDE) {
            edge.refuses("BAD ahead of NO", x -> x.divide(1, 5, 0, 2, side), BAD);
            edge.refuses("BAD ahead of HIGH", x -> x.divide(1, 5, 3, 1, side), BAD);
        }
    }

    // ---- promise 12: divisor

    private static void divisorNumbers() {
        edge.changes("into 0", x -> x.divisor(0, 12, 8, RIGHT), 2, "register 0", "2 2 0 0");
        edge.changes("into 15", x -> x.divisor(15, 12, 8, LEFT), 2, "register 15", "2 2 0 0");
        edge.changes("into t", x -> x.divisor(8, 8, 12, LEFT), 2, "register 8", "2 2 0 0");
        edge.changes("into u", x -> x.divisor(8, 12, 8, RIGHT), 2, "register 8", "2 2 0 0");
        edge.changes("of 15 and 15", x -> x.divisor(1, 15, 15, RIGHT), 30, "register 1", "10 0 -4 -2");
        edge.changes("of a UNIT and the highest", x -> x.divisor(0, 1, 3, RIGHT), 1, "register 0", "2 0 0 0");
        edge.changes("of the highest and a UNIT", x -> x.divisor(0, 3, 9, LEFT), 1, "register 0", "2 0 0 0");
        for (int wrong : Edge.NO_REGISTER) {
            edge.refuses("into no register " + wrong, x -> x.divisor(wrong, 12, 8, 0), BAD);
            edge.refuses("of no register " + wrong, x -> x.divisor(1, wrong, 8, 0), BAD);
            edge.refuses("and no register " + wrong, x -> x.divisor(1, 12, wrong, 0), BAD);
        }
        for (int side : Edge.NO_SIDE) {
            edge.refuses("no side " + side, x -> x.divisor(1, 12, 8, side), BAD);
        }
    }

    /** "(not both 0)": with one 0 it is the greatest one that is LIKE the other. */
    private static void divisorOfZero() {
        Edge lone = with(q(-6, 4, 2, 0), q(0, 0, 0, 0));
        String[] want = {"6 2 0 4", "6 2 0 -4"};
        for (int k = 0; k <= 1; k++) {
            int side = k;
            lone.refuses("both 0", x -> x.divisor(5, 1, 2, side), NO);
            lone.refuses("0 twice", x -> x.divisor(2, 2, 2, side), NO);
            lone.changes("it and 0", x -> x.divisor(5, 0, 1, side), 14, "register 5", want[side]);
            lone.changes("0 and it", x -> x.divisor(5, 1, 0, side), 14, "register 5", want[side]);
            lone.changes("it and itself", x -> x.divisor(0, 0, 0, side), 14, "register 0", want[side]);
            edge.changes("-1 and 0", x -> x.divisor(0, 9, 2, side), 1, "register 0", "2 0 0 0");
        }
    }

    private static void divisorHigh() {
        for (int k = 0; k <= 1; k++) {
            int side = k;
            with(q(20000, 20000, 0, 0)).changes("just held", x -> x.divisor(1, 0, 2, side), 200000000,
                "register 1", "20000 20000 0 0");
            with(q(0, 0, -20000, -20000)).changes("just held", x -> x.divisor(1, 2, 0, side), 200000000,
                "register 1", "20000 20000 0 0");
            with(q(20000, 20000, 2, 0)).refuses("HIGH", x -> x.divisor(1, 0, 2, side), HIGH);
            with(q(20000, 20000, 2, 0)).refuses("HIGH in place", x -> x.divisor(0, 0, 2, side), HIGH);
            with(q(-20000, -20000, -2, 0)).refuses("HIGH by its other sign", x -> x.divisor(1, 2, 0, side), HIGH);
            edge.refuses("the highest and 0", x -> x.divisor(0, 3, 2, side), HIGH);
            edge.refuses("the highest and the lowest", x -> x.divisor(0, 3, 4, side), HIGH);
            edge.changes("20000 and 0", x -> x.divisor(0, 11, 2, side), 100000000, "register 0", "20000 0 0 0");
        }
    }

    private static void divisorOrder() {
        for (int wrong : Edge.NO_REGISTER) {
            edge.refuses("BAD ahead of NO", x -> x.divisor(wrong, 2, 2, 0), BAD);
            edge.refuses("BAD ahead of NO", x -> x.divisor(1, 2, wrong, 0), BAD);
            edge.refuses("BAD ahead of NO", x -> x.divisor(1, wrong, 2, 0), BAD);
            edge.refuses("BAD ahead of HIGH", x -> x.divisor(wrong, 3, 2, 0), BAD);
        }
        for (int side : Edge.NO_SIDE) {
            edge.refuses("BAD ahead of NO", x -> x.divisor(1, 2, 2, side), BAD);
            edge.refuses("BAD ahead of HIGH", x -> x.divisor(1, 3, 2, side), BAD);
        }
    }

    // ---- promise 13: like

    private static void likeNumbers() {
        Edge turned = edge.after(x -> x.set(15, 0, 6, 2, 4));
        turned.refuses("s u = t", x -> x.like(0, 15, 0), 1);
        turned.refuses("and not u s = t", x -> x.like(0, 15, 1), NONE);
        turned.refuses("back again by the MIRROR", x -> x.like(15, 0, 0), 8);
        edge.after(x -> x.set(15, 0, 4, 6, 2)).refuses("u s = t", x -> x.like(0, 15, 1), 1);
        edge.after(x -> x.set(15, 0, 4, 6, 2)).refuses("and not s u = t", x -> x.like(0, 15, 0), NONE);
        for (int k = 0; k <= 1; k++) {
            int side = k;
            edge.refuses("the first UNIT", x -> x.like(15, 15, side), 0);
            edge.refuses("the last UNIT", x -> x.like(3, 4, side), 23);
            edge.refuses("all UNITS, of 0 and 0", x -> x.like(2, 2, side), 0);
            for (int wrong : Edge.NO_REGISTER) {
                edge.refuses("no register " + wrong, x -> x.like(wrong, 0, side), BAD);
                edge.refuses("to no register " + wrong, x -> x.like(0, wrong, side), BAD);
                edge.refuses("neither", x -> x.like(wrong, wrong, side), BAD);
            }
        }
        for (int side : Edge.NO_SIDE) {
            edge.refuses("no side " + side, x -> x.like(0, 0, side), BAD);
            edge.refuses("no side " + side, x -> x.like(0, 3, side), BAD);
        }
    }

    private static void likeNone() {
        for (int k = 0; k <= 1; k++) {
            int side = k;
            edge.refuses("of other NORMS", x -> x.like(0, 15, side), NONE);
            edge.refuses("0 to what is not", x -> x.like(2, 1, side), NONE);
            edge.refuses("what is not to 0", x -> x.like(1, 2, side), NONE);
            with(q(6, 2, 0, 0), q(6, 0, 0, 2), q(4, 4, 2, 2)).refuses("of one NORM", x -> x.like(0, 2, side), NONE);
        }
    }
}

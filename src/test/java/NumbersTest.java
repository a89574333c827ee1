import java.util.Random;

/** Promises 7 to 13: set, part, work, unit, divide, divisor, like. */
public final class NumbersTest {
    private static final int BAD = -1, NO = -2, HIGH = -3, NONE = -4, BAD_PART = -1000000000;
    private static final int RIGHT = 0, LEFT = 1;
    private static final int MIN = Integer.MIN_VALUE, MAX = Integer.MAX_VALUE;
    private static final int[][] UNITS = {
        {2, 0, 0, 0},
        {1, 1, 1, 1}, {1, 1, 1, -1}, {1, 1, -1, 1}, {1, 1, -1, -1},
        {1, -1, 1, 1}, {1, -1, 1, -1}, {1, -1, -1, 1}, {1, -1, -1, -1},
        {0, 2, 0, 0}, {0, 0, 2, 0}, {0, 0, 0, 2}, {0, 0, 0, -2}, {0, 0, -2, 0}, {0, -2, 0, 0},
        {-1, 1, 1, 1}, {-1, 1, 1, -1}, {-1, 1, -1, 1}, {-1, 1, -1, -1},
        {-1, -1, 1, 1}, {-1, -1, 1, -1}, {-1, -1, -1, 1}, {-1, -1, -1, -1},
        {-2, 0, 0, 0}
    };

    private static final Due due = new Due();

    public static void main(String[] args) {
        set();
        part();
        primitive();
        units();
        work();
        workRefuses();
        unit();
        divide();
        divideInPlace();
        divideRefuses();
        divisor();
        divisorOfMultiples();
        divisorRefuses();
        like();
        due.end();
    }

    private static FourParts with(int[]... numbers) {
        FourParts x = new FourParts();
        for (int s = 0; s < numbers.length; s++) {
            due.is("set", x.set(s, numbers[s][0], numbers[s][1], numbers[s][2], numbers[s][3]), 0);
        }
        return x;
    }

    private static int[] q(int a, int b, int c, int d) {
        return new int[] {a, b, c, d};
    }

    private static void set() {
        FourParts x = with(q(20000, -20000, 0, 2), q(19999, -19999, 1, -1));
        due.parts("even", x, 0, 20000, -20000, 0, 2);
        due.parts("odd", x, 1, 19999, -19999, 1, -1);
        due.is("the last register", x.set(15, 2, 4, 6, 8), 0);
        due.parts("the last register", x, 15, 2, 4, 6, 8);
        due.is("s -1", x.set(-1, 0, 0, 0, 0), BAD);
        due.is("s 16", x.set(16, 0, 0, 0, 0), BAD);
        due.is("s min", x.set(MIN, 0, 0, 0, 0), BAD);
        due.is("BAD ahead of NO", x.set(16, 1, 0, 0, 0), BAD);
        for (int i = 0; i < 4; i++) {
            int[] mixed = q(2, 2, 2, 2);
            mixed[i] = -3;
            due.is("not all even or odd", x.set(0, mixed[0], mixed[1], mixed[2], mixed[3]), NO);
            mixed[i] = 20001;
            due.is("NO ahead of HIGH", x.set(0, mixed[0], mixed[1], mixed[2], mixed[3]), NO);
            for (int high : new int[] {20002, -20002, MIN, MAX - 1}) {
                mixed[i] = high;
                due.is("HIGH " + high, x.set(0, mixed[0], mixed[1], mixed[2], mixed[3]), HIGH);
            }
        }
        due.is("HIGH odd", x.set(0, 1, 20001, 1, 1), HIGH);
        due.is("HIGH odd", x.set(0, 1, 1, -20001, 1), HIGH);
        due.parts("nothing changed", x, 0, 20000, -20000, 0, 2);
    }

    private static void part() {
        FourParts x = with(q(20000, -20000, 20000, -20000), q(3, -5, 7, -9), q(2, 4, -6, 8));
        due.is("norm", x.part(0, 4), 400000000);
        due.is("norm", x.part(1, 4), 41);
        due.is("norm", x.part(2, 4), 30);
        due.is("norm of 0", x.part(3, 4), 0);
        due.is("s -1", x.part(-1, 0), BAD_PART);
        due.is("s 16", x.part(16, 6), BAD_PART);
        due.is("what -1", x.part(0, -1), BAD_PART);
        due.is("what 7", x.part(0, 7), BAD_PART);
        due.is("what min", x.part(0, MIN), BAD_PART);
        due.is("s max", x.part(MAX, MAX), BAD_PART);
    }

    private static void primitive() {
        int[][] are = {{2, 0, 0, 0}, {1, 1, 1, 1}, {2, 2, 0, 0}, {2, 2, 2, 0}, {4, 2, 0, 0}, {4, 6, 0, 0},
            {3, 3, 3, 1}, {6, 6, 6, 4}, {19999, 1, 1, 1}, {20000, 19998, 0, 0}, {0, 0, 0, -2}, {6, 2, 2, 4}};
        for (int[] parts : are) {
            due.is("PRIMITIVE", with(parts).part(0, 5), 1);
        }
        int[][] areNot = {{0, 0, 0, 0}, {2, 2, 2, 2}, {2, -2, 2, 6}, {4, 0, 0, 0}, {4, 4, 0, 0}, {3, 3, 3, 3},
            {6, 0, 0, 0}, {9, -3, 15, 3}, {6, 6, 0, 0}, {19998, 0, 6, 12}, {0, 0, 0, -20000}, {14, 28, 0, 0},
            {8, 4, 4, 0}, {12, 6, 6, 6}};
        for (int[] parts : areNot) {
            due.is("not PRIMITIVE", with(parts).part(0, 5), 0);
        }
    }

    private static void units() {
        for (int u = 0; u < 24; u++) {
            due.is("the UNIT", with(UNITS[u]).part(0, 6), u);
        }
        due.is("no UNIT", with(q(0, 0, 0, 0)).part(0, 6), NONE);
        due.is("no UNIT", with(q(2, 2, 0, 0)).part(0, 6), NONE);
        due.is("no UNIT", with(q(3, 1, 1, 1)).part(0, 6), NONE);
    }

    private static void work() {
        FourParts x = with(q(6, 4, 2, 0), q(1, 3, 5, -7));
        due.is("and", x.work(2, 0, 0, 1), 0);
        due.parts("and", x, 2, 7, 7, 7, -7);
        due.is("less", x.work(2, 1, 0, 1), 0);
        due.parts("less", x, 2, 5, 1, -3, 7);
        due.is("times", x.work(2, 2, 0, 1), 0);
        due.parts("times", x, 2, -8, 4, 30, -14);
        due.is("times", x.work(2, 2, 1, 0), 0);
        due.parts("the other way round", x, 2, -8, 18, 2, -28);
        due.is("mirror", x.work(2, 3, 1, MIN), 0);
        due.parts("mirror", x, 2, 1, -3, -5, 7);
        int[][] table = {{9, 10, 11}, {10, 11, 9}, {11, 9, 10}};
        for (int[] row : table) {
            FourParts y = with(UNITS[row[0]], UNITS[row[1]]);
            y.work(2, 2, 0, 1);
            due.is("i j = k, j k = i, k i = j", y.part(2, 6), row[2]);
            y.work(2, 2, 1, 0);
            due.is("j i = -k and so on", y.part(2, 6), 23 - row[2]);
            y.work(2, 2, 0, 0);
            due.is("i i = -1 and so on", y.part(2, 6), 23);
        }
        due.is("into one of both", x.work(0, 2, 0, 1), 0);
        due.parts("into one of both", x, 0, -8, 4, 30, -14);
        due.is("with itself", x.work(1, 1, 1, 1), 0);
        due.parts("with itself", x, 1, 0, 0, 0, 0);
    }

    private static void workRefuses() {
        FourParts x = with(q(20000, 0, 0, 0), q(-2, 0, 0, 0), q(2, 2, 2, 2), q(0, -20000, 0, 0), q(1, 1, 1, 1));
        due.is("just held", x.work(9, 0, 0, 1), 0);
        due.is("HIGH", x.work(9, 1, 0, 1), HIGH);
        due.is("HIGH below", x.work(9, 1, 3, 2), HIGH);
        due.is("a product just held", x.work(9, 2, 0, 2), 0);
        due.is("HIGH", x.work(9, 2, 0, 0), HIGH);
        due.parts("what was held stays", x, 9, 20000, 20000, 20000, 20000);
        due.is("HIGH into one of both", x.work(0, 0, 0, 0), HIGH);
        due.parts("nothing changed", x, 0, 20000, 0, 0, 0);
        due.is("with a UNIT of halves", x.work(9, 2, 0, 4), 0);
        due.parts("with a UNIT of halves", x, 9, 10000, 10000, 10000, 10000);
        due.is("how -1", x.work(9, -1, 0, 0), BAD);
        due.is("how 4", x.work(9, 4, 0, 0), BAD);
        for (int wrong : new int[] {-1, 16, MIN, MAX}) {
            for (int how = 0; how <= 3; how++) {
                due.is("s " + wrong, x.work(wrong, how, 0, 0), BAD);
                due.is("t " + wrong, x.work(9, how, wrong, 0), BAD);
                due.is("u " + wrong, x.work(9, how, 1, wrong), how == 3 ? 0 : BAD);
            }
        }
    }

    private static void unit() {
        FourParts x = with(q(6, 4, 2, 0), q(20000, 20000, 0, 0));
        for (int u = 0; u < 24; u++) {
            x.set(3, UNITS[u][0], UNITS[u][1], UNITS[u][2], UNITS[u][3]);
            due.is("t u", x.unit(2, 0, u, 0), 0);
            x.work(4, 2, 0, 3);
            due.is("t u", x.like(2, 4, 0), 0);
            due.is("u t", x.unit(2, 0, u, 1), 0);
            x.work(4, 2, 3, 0);
            due.is("u t", x.like(2, 4, 0), 0);
        }
        due.is("in place", x.unit(0, 0, 9, 0), 0);
        due.parts("t i", x, 0, -4, 6, 0, -2);
        due.is("just held", x.unit(2, 1, 1, 0), 0);
        due.parts("just held", x, 2, 0, 20000, 0, 20000);
        x.set(1, 20000, 20000, 20000, 0);
        due.is("HIGH", x.unit(1, 1, 8, 0), HIGH);
        due.parts("nothing changed", x, 1, 20000, 20000, 20000, 0);
        int[][] wrong = {{-1, 0, 0, 0}, {16, 0, 0, 0}, {0, -1, 0, 0}, {0, 16, 0, 0}, {0, 0, -1, 0}, {0, 0, 24, 0},
            {0, 0, 0, -1}, {0, 0, 0, 2}, {0, 0, MAX, 0}, {0, 0, MIN, 0}, {0, 1, 8, 2}};
        for (int[] call : wrong) {
            due.is("BAD", x.unit(call[0], call[1], call[2], call[3]), BAD);
        }
    }

    private static void divided(String what, int[] t, int[] u, int side, int[] quotient, int[] rest) {
        FourParts x = with(t, u);
        due.is(what, x.divide(2, 3, 0, 1, side), 0);
        due.parts(what + ", the q", x, 2, quotient[0], quotient[1], quotient[2], quotient[3]);
        due.parts(what + ", the REST", x, 3, rest[0], rest[1], rest[2], rest[3]);
    }

    private static void divide() {
        int[] two = q(4, 0, 0, 0);
        divided("like ones: the first", q(6, 4, 2, 0), q(2, 2, 2, 0), RIGHT, q(4, 0, -2, 0), q(0, 0, 0, -2));
        divided("like ones: the first", q(6, 4, 2, 0), q(2, 2, 2, 0), LEFT, q(4, 0, -2, 0), q(0, 0, 0, 2));
        divided("a half goes up", q(2, 0, 0, 0), two, RIGHT, q(2, 0, 0, 0), q(-2, 0, 0, 0));
        divided("a half goes up below 0", q(-2, 0, 0, 0), two, LEFT, q(0, 0, 0, 0), q(-2, 0, 0, 0));
        divided("two halves", q(2, 2, 0, 0), two, RIGHT, q(2, 2, 0, 0), q(-2, -2, 0, 0));
        divided("a whole goes up", q(2, 2, 2, 0), two, RIGHT, q(1, 1, 1, 1), q(0, 0, 0, -2));
        divided("a whole goes up below 0", q(-2, -2, -2, -4), two, LEFT, q(-1, -1, -1, -1), q(0, 0, 0, -2));
        divided("by 1", q(6, 4, 2, 0), q(2, 0, 0, 0), LEFT, q(6, 4, 2, 0), q(0, 0, 0, 0));
        divided("0", q(0, 0, 0, 0), q(3, 1, 1, 1), RIGHT, q(0, 0, 0, 0), q(0, 0, 0, 0));
        divided("t is q u", q(-8, 4, 30, -14), q(1, 3, 5, -7), RIGHT, q(6, 4, 2, 0), q(0, 0, 0, 0));
        divided("a REST just held", q(0, 20000, 20000, 0), q(20000, 20000, 20000, 20000), RIGHT,
            q(2, 0, 2, 0), q(0, -20000, -20000, 0));
        divided("t is u q", q(-8, 4, 30, -14), q(6, 4, 2, 0), LEFT, q(1, 3, 5, -7), q(0, 0, 0, 0));
    }

    private static void divideInPlace() {
        for (int side = 0; side <= 1; side++) {
            FourParts apart = with(q(60, 44, 22, 80), q(3, -5, 7, 9));
            apart.divide(2, 3, 0, 1, side);
            FourParts x = with(q(60, 44, 22, 80), q(3, -5, 7, 9));
            due.is("into t and u", x.divide(0, 1, 0, 1, side), 0);
            FourParts y = with(q(60, 44, 22, 80), q(3, -5, 7, 9));
            due.is("into u and t", y.divide(1, 0, 0, 1, side), 0);
            for (int i = 0; i < 4; i++) {
                due.is("the q", x.part(0, i), apart.part(2, i));
                due.is("the REST", x.part(1, i), apart.part(3, i));
                due.is("the q", y.part(1, i), apart.part(2, i));
                due.is("the REST", y.part(0, i), apart.part(3, i));
            }
        }
        FourParts z = with(q(60, 44, 22, 80));
        due.is("by itself", z.divide(0, 1, 0, 0, 0), 0);
        due.parts("by itself", z, 0, 2, 0, 0, 0);
        due.parts("by itself", z, 1, 0, 0, 0, 0);
    }

    private static void divideRefuses() {
        FourParts x = with(q(20000, 20000, 20000, 20000), q(1, 1, 1, 1), q(0, 0, 0, 0), q(6, 4, 2, 0));
        due.is("s is r", x.divide(5, 5, 0, 1, 0), BAD);
        due.is("BAD ahead of NO", x.divide(5, 5, 0, 2, 0), BAD);
        due.is("NO", x.divide(3, 4, 0, 2, 0), NO);
        due.is("NO", x.divide(3, 4, 2, 2, 1), NO);
        due.is("HIGH, the q", x.divide(3, 4, 0, 1, 0), HIGH);
        due.is("HIGH, the q", x.divide(3, 4, 0, 1, 1), HIGH);
        due.parts("nothing changed", x, 3, 6, 4, 2, 0);
        due.parts("nothing changed", x, 4, 0, 0, 0, 0);
        for (int wrong : new int[] {-1, 16, MIN, MAX}) {
            due.is("s", x.divide(wrong, 4, 0, 1, 0), BAD);
            due.is("r", x.divide(3, wrong, 0, 1, 0), BAD);
            due.is("t", x.divide(3, 4, wrong, 1, 0), BAD);
            due.is("u", x.divide(3, 4, 0, wrong, 0), BAD);
            due.is("side", x.divide(3, 4, 0, 1, wrong), BAD);
        }
        due.is("side 2", x.divide(3, 4, 0, 2, 2), BAD);
    }

    private static void divisor() {
        FourParts x = with(q(2, 2, 0, 0), q(4, 0, 0, 0), q(0, 0, 0, 0), q(3, 1, 1, 1), q(-6, 4, 2, 0));
        due.is("1 + i and 2", x.divisor(5, 0, 1, RIGHT), 2);
        due.parts("1 + i and 2", x, 5, 2, 2, 0, 0);
        due.is("1 + i and 2", x.divisor(5, 1, 0, LEFT), 2);
        due.parts("1 + i and 2", x, 5, 2, 2, 0, 0);
        due.is("of norms 3 and 2", x.divisor(5, 3, 0, RIGHT), 1);
        due.parts("of norms 3 and 2", x, 5, 2, 0, 0, 0);
        due.is("with 0", x.divisor(5, 4, 2, RIGHT), 14);
        due.parts("the greatest u s", x, 5, 6, 2, 0, 4);
        due.is("with 0", x.divisor(5, 4, 2, LEFT), 14);
        due.parts("the greatest s u", x, 5, 6, 2, 0, -4);
        due.is("0 with it", x.divisor(5, 2, 4, LEFT), 14);
        due.parts("the greatest s u", x, 5, 6, 2, 0, -4);
        due.is("in place", x.divisor(4, 4, 4, RIGHT), 14);
    }

    /** Of x g and y g, with NORMS of x and y that have nothing in common, g is THE DIVISOR but for a UNIT. */
    private static void divisorOfMultiples() {
        Random random = new Random(5);
        for (int round = 0; round < 400; round++) {
            FourParts x = with(some(random, 20), some(random, 20), some(random, 20));
            long common = java.math.BigInteger.valueOf(x.part(0, 4))
                .gcd(java.math.BigInteger.valueOf(x.part(1, 4))).longValue();
            if (common != 1 || x.part(2, 4) == 0) {
                continue;
            }
            x.work(3, 2, 0, 2);
            x.work(4, 2, 1, 2);
            due.is("x g and y g on the RIGHT", x.divisor(5, 3, 4, RIGHT), x.part(2, 4));
            due.holds("LIKE g on the LEFT", x.like(2, 5, LEFT) != NONE);
            greatestLike(x, 5, LEFT);
            x.work(3, 2, 2, 0);
            x.work(4, 2, 2, 1);
            due.is("g x and g y on the LEFT", x.divisor(5, 3, 4, LEFT), x.part(2, 4));
            due.holds("LIKE g on the RIGHT", x.like(2, 5, RIGHT) != NONE);
            greatestLike(x, 5, RIGHT);
        }
    }

    private static void greatestLike(FourParts x, int s, int side) {
        for (int u = 0; u < 24; u++) {
            x.unit(6, s, u, side);
            int i = 0;
            while (i < 3 && x.part(6, i) == x.part(s, i)) {
                i++;
            }
            due.holds("none that is LIKE it is greater", x.part(6, i) <= x.part(s, i));
        }
    }

    private static int[] some(Random random, int width) {
        int odd = random.nextInt(2);
        int[] parts = new int[4];
        for (int i = 0; i < 4; i++) {
            parts[i] = 2 * (random.nextInt(width) - width / 2) + odd;
        }
        return parts;
    }

    private static void divisorRefuses() {
        FourParts x = with(q(20000, 20000, 20000, 20000), q(0, 0, 0, 0), q(6, 4, 2, 0));
        due.is("NO", x.divisor(2, 1, 3, 0), NO);
        due.is("NO", x.divisor(2, 1, 1, 1), NO);
        due.is("HIGH", x.divisor(2, 0, 1, 0), HIGH);
        due.is("HIGH", x.divisor(2, 1, 0, 1), HIGH);
        due.parts("nothing changed", x, 2, 6, 4, 2, 0);
        for (int wrong : new int[] {-1, 16, MIN, MAX}) {
            due.is("s, ahead of NO", x.divisor(wrong, 1, 1, 0), BAD);
            due.is("t", x.divisor(2, wrong, 1, 0), BAD);
            due.is("u", x.divisor(2, 0, wrong, 0), BAD);
            due.is("side, ahead of NO", x.divisor(2, 1, 1, wrong), BAD);
        }
        due.is("side 2", x.divisor(2, 0, 1, 2), BAD);
    }

    private static void like() {
        for (int u = 0; u < 24; u++) {
            FourParts x = with(q(6, 4, 2, 0), UNITS[u]);
            x.work(2, 2, 0, 1);
            due.is("s u = t", x.like(0, 2, 0), u);
            x.work(2, 2, 1, 0);
            due.is("u s = t", x.like(0, 2, 1), u);
        }
        FourParts x = with(q(6, 4, 2, 0), q(0, 6, 2, 4), q(6, 2, 0, 4), q(12, 8, 4, 0));
        due.is("on the RIGHT", x.like(0, 1, 0), 1);
        due.is("but not on the LEFT", x.like(0, 1, 1), NONE);
        due.is("twice it", x.like(0, 3, 0), NONE);
        due.is("0 and it", x.like(4, 0, 0), NONE);
        due.is("it and 0", x.like(0, 4, 1), NONE);
        due.is("0 and 0, all UNITS", x.like(4, 5, 0), 0);
        due.is("0 and 0, all UNITS", x.like(4, 4, 1), 0);
        x.set(6, 20000, 20000, 20000, 20000);
        due.is("by way of what no register holds", x.like(6, 6, 1), 0);
        for (int wrong : new int[] {-1, 16, MIN, MAX}) {
            due.is("s", x.like(wrong, 0, 0), BAD);
            due.is("t", x.like(0, wrong, 0), BAD);
            due.is("side", x.like(0, 0, wrong), BAD);
        }
        due.is("side 2", x.like(0, 0, 2), BAD);
    }
}

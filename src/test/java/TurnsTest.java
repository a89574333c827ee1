import java.util.Random;

/** Promises 18 and 19: turn, turned. */
public final class TurnsTest {
    private static final int BAD_TURN = -2000000000, TURN_OF_ZERO = -2000000001;
    private static final int MIN = Integer.MIN_VALUE, MAX = Integer.MAX_VALUE;

    private static final Due due = new Due();

    public static void main(String[] args) {
        known();
        byProducts();
        greatest();
        turnRefuses();
        turnedRefuses();
        due.end();
    }

    private static FourParts with(int a, int b, int c, int d) {
        FourParts x = new FourParts();
        due.is("set", x.set(0, a, b, c, d), 0);
        return x;
    }

    private static void turnIs(FourParts x, long... nine) {
        for (int i = 0; i < 3; i++) {
            for (int j = 0; j < 3; j++) {
                due.is("row " + i + ", column " + j, x.turn(0, i, j), nine[3 * i + j]);
            }
        }
    }

    private static void known() {
        turnIs(with(2, 0, 0, 0), 1, 0, 0, 0, 1, 0, 0, 0, 1);
        turnIs(with(2, 2, 0, 0), 2, 0, 0, 0, 0, -2, 0, 2, 0);
        turnIs(with(2, 0, 2, 0), 0, 0, 2, 0, 2, 0, -2, 0, 0);
        turnIs(with(2, 0, 0, 2), 0, -2, 0, 2, 0, 0, 0, 0, 2);
        turnIs(with(1, 1, 1, 1), 0, 0, 1, 1, 0, 0, 0, 1, 0);
        turnIs(with(6, 4, 2, 0), 12, 4, 6, 4, 6, -12, -6, 12, 4);
        FourParts x = with(6, 4, 2, 0);
        due.is("row 0", x.turned(0, 1, 10, 100, 0), 652);
        due.is("row 1", x.turned(0, 1, 10, 100, 1), -1136);
        due.is("row 2", x.turned(0, -1, -10, 100, 2), 286);
    }

    /** q v (MIRROR of q), by work() on registers of their own. */
    private static void byProducts() {
        Random random = new Random(3);
        for (int round = 0; round < 1000; round++) {
            int odd = random.nextInt(2);
            FourParts x = with(2 * random.nextInt(20) - 20 + odd, 2 * random.nextInt(20) - 20 + odd,
                2 * random.nextInt(20) - 20 + odd, 2 * random.nextInt(20) - 20 + odd);
            int[] v = {random.nextInt(21) - 10, random.nextInt(21) - 10, random.nextInt(21) - 10};
            x.set(1, 0, 2 * v[0], 2 * v[1], 2 * v[2]);
            x.work(2, 3, 0, 0);
            due.is("q v", x.work(3, 2, 0, 1), 0);
            due.is("q v (MIRROR of q)", x.work(3, 2, 3, 2), 0);
            for (int i = 0; i < 3; i++) {
                due.is("turned", x.turned(0, v[0], v[1], v[2], i) * 2, x.part(3, i + 1));
            }
            byColumns(x, v);
        }
    }

    private static void byColumns(FourParts x, int[] v) {
        if (x.part(0, 4) == 0) {
            return;
        }
        for (int i = 0; i < 3; i++) {
            long sum = 0;
            for (int j = 0; j < 3; j++) {
                sum += (long) x.turn(0, i, j) * v[j];
            }
            due.is("THE TURN times a column", sum, x.turned(0, v[0], v[1], v[2], i));
        }
    }

    private static void greatest() {
        FourParts x = with(20000, 20000, 20000, 20000);
        turnIs(x, 0, 0, 400000000, 400000000, 0, 0, 0, 400000000, 0);
        due.is("100", x.turned(0, 100, -100, 100, 1), 40000000000L);
        due.is("-100", x.turned(0, 100, -100, 100, 2), -40000000000L);
        x = with(20000, 20000, 20000, -20000);
        turnIs(x, 0, 400000000, 0, 0, 0, -400000000, -400000000, 0, 0);
        x = with(20000, 0, 0, 0);
        turnIs(x, 100000000, 0, 0, 0, 100000000, 0, 0, 0, 100000000);
        x = with(0, 20000, -20000, 0);
        turnIs(x, 0, -200000000, 0, -200000000, 0, 0, 0, 0, -200000000);
        x = with(20000, 10000, 10000, 0);
        due.is("three of a row", x.turned(0, 100, 100, 100, 0), 100L * (100000000 + 50000000 + 100000000));
    }

    private static void turnRefuses() {
        FourParts x = with(2, 2, 0, 0);
        due.is("0", x.turn(1, 0, 0), TURN_OF_ZERO);
        due.is("0", x.turn(15, 2, 2), TURN_OF_ZERO);
        for (int wrong : new int[] {-1, 3, MIN, MAX}) {
            due.is("row " + wrong, x.turn(0, wrong, 0), BAD_TURN);
            due.is("column " + wrong, x.turn(0, 0, wrong), BAD_TURN);
            due.is("BAD ahead of NO", x.turn(1, wrong, 0), BAD_TURN);
            due.is("BAD ahead of NO", x.turn(1, 1, wrong), BAD_TURN);
        }
        for (int wrong : new int[] {-1, 16, MIN, MAX}) {
            due.is("register " + wrong, x.turn(wrong, 0, 0), BAD_TURN);
        }
    }

    private static void turnedRefuses() {
        FourParts x = with(2, 2, 0, 0);
        for (int s = 0; s <= 1; s++) {
            for (int wrong : new int[] {-101, 101, MIN, MAX}) {
                due.is("x " + wrong, x.turned(s, wrong, 0, 0, 0), -1);
                due.is("y " + wrong, x.turned(s, 0, wrong, 0, 0), -1);
                due.is("z " + wrong, x.turned(s, 0, 0, wrong, 0), -1);
            }
            for (int wrong : new int[] {-1, 3, MIN, MAX}) {
                due.is("row " + wrong, x.turned(s, 0, 0, 0, wrong), -1);
            }
        }
        for (int wrong : new int[] {-1, 16, MIN, MAX}) {
            due.is("register " + wrong, x.turned(wrong, 0, 0, 0, 0), -1);
        }
        for (int i = 0; i < 3; i++) {
            due.is("of 0", x.turned(1, 100, -100, 100, i), 0);
        }
        due.is("-100", x.turned(0, -100, 0, 0, 0), -200);
        due.is("100", x.turned(0, 0, 100, 0, 2), 200);
    }
}

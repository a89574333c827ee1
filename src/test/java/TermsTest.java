import java.util.ArrayList;
import java.util.HashSet;
import java.util.List;
import java.util.Random;
import java.util.Set;

/**
 * What "What it is" and "Terms" say of numbers, sentence by sentence. Each is held against other calls of the
 * program, not against the model, so that a word misread there would be seen here.
 */
public final class TermsTest {
    private static final int NONE = -4;
    private static final int RIGHT = 0, LEFT = 1;
    private static final int UNITS = 24;
    // What one object is used for at most; each method below stays far below it.
    private static final int CALLS = 512;

    private static final Due due = new Due();

    public static void main(String[] args) {
        partsAreToldDoubled();
        squaresOfIJK();
        normOfAProduct();
        mirror();
        greater();
        units();
        like();
        divided();
        divisorDividesBoth();
        divisorIsTheGreatestCommonOne();
        primitive();
        ways();
        due.end();
    }

    private static FourParts with(int[]... numbers) {
        FourParts x = new FourParts();
        for (int s = 0; s < numbers.length; s++) {
            due.is("set", x.set(s, numbers[s][0], numbers[s][1], numbers[s][2], numbers[s][3]), 0);
        }
        return x;
    }

    private static int[] q(int a, int b, int c, int d) {
        return new int[] {a, b, c, d};
    }

    private static int[] parts(FourParts x, int s) {
        return q(x.part(s, 0), x.part(s, 1), x.part(s, 2), x.part(s, 3));
    }

    private static String text(int[] q) {
        return q[0] + " " + q[1] + " " + q[2] + " " + q[3];
    }

    private static List<int[]> allOf(int n) {
        List<int[]> all = new ArrayList<>();
        int count = new FourParts().many(n, 0);
        FourParts x = null;
        for (int i = 0; i < count; i++) {
            if (i % (CALLS / 5) == 0) {
                x = new FourParts();
            }
            due.is("listed", x.listed(0, n, i), 1);
            all.add(parts(x, 0));
        }
        return all;
    }

    private static int[] some(Random random, int width) {
        int odd = random.nextInt(2);
        int[] parts = new int[4];
        for (int i = 0; i < 4; i++) {
            parts[i] = 2 * (random.nextInt(width) - width / 2) + odd;
        }
        return parts;
    }

    /** "it is (a + b i + c j + d k) / 2": its double is a, b, c, d times 1, i, j, k. */
    private static void partsAreToldDoubled() {
        for (int[] parts : new int[][] {{3, -5, 7, 9}, {1, 1, 1, 1}, {6, -4, 2, 0}, {-40, 22, 64, 98}}) {
            FourParts x = with(parts, q(2, 0, 0, 0), q(0, 2, 0, 0), q(0, 0, 2, 0), q(0, 0, 0, 2));
            for (int i = 0; i < 4; i++) {
                x.set(5, 2 * parts[i], 0, 0, 0);
                due.is("a part times 1, i, j, k", x.work(5, 2, 5, i + 1), 0);
                due.is("their sum", x.work(6, 0, 6, 5), 0);
            }
            due.is("its double", x.work(7, 0, 0, 0), 0);
            due.is("the same", x.like(6, 7, RIGHT), 0);
        }
    }

    /** "i i = j j = k k = i j k = -1". */
    private static void squaresOfIJK() {
        FourParts x = with(q(0, 2, 0, 0), q(0, 0, 2, 0), q(0, 0, 0, 2));
        for (int s = 0; s < 3; s++) {
            due.is("a square", x.work(3, 2, s, s), 0);
            due.parts("a square", x, 3, -2, 0, 0, 0);
        }
        due.is("i j", x.work(3, 2, 0, 1), 0);
        due.is("i j k", x.work(3, 2, 3, 2), 0);
        due.parts("i j k", x, 3, -2, 0, 0, 0);
        due.is("j k", x.work(3, 2, 1, 2), 0);
        due.is("i (j k)", x.work(3, 2, 0, 3), 0);
        due.parts("i (j k)", x, 3, -2, 0, 0, 0);
    }

    /** "Its NORM is (a a + b b + c c + d d) / 4, a whole": and so that of a product is the product of both. */
    private static void normOfAProduct() {
        Random random = new Random(11);
        for (int round = 0; round < 2000; round++) {
            int[] parts = some(random, 60);
            FourParts x = with(parts, some(random, 60));
            int sum = 0;
            for (int part : parts) {
                sum += part * part;
            }
            due.is("a whole", sum % 4, 0);
            due.is("the NORM", x.part(0, 4), sum / 4);
            due.is("a product", x.work(2, 2, 0, 1), 0);
            due.is("its NORM", x.part(2, 4), (long) x.part(0, 4) * x.part(1, 4));
        }
    }

    /** "Its MIRROR has a, -b, -c, -d": it times that is its NORM. */
    private static void mirror() {
        Random random = new Random(12);
        for (int round = 0; round < 2000; round++) {
            int[] parts = some(random, 60);
            FourParts x = with(parts);
            due.is("the MIRROR", x.work(1, 3, 0, 0), 0);
            due.parts("the MIRROR", x, 1, parts[0], -parts[1], -parts[2], -parts[3]);
            due.is("it times that", x.work(2, 2, 0, 1), 0);
            due.parts("it times that", x, 2, 2 * x.part(0, 4), 0, 0, 0);
        }
    }

    /** "at the first of a, b, c, d in which they differ": in a list each one is GREATER than the next. */
    private static void greater() {
        for (int n = 1; n <= 40; n++) {
            List<int[]> all = allOf(n);
            for (int i = 0; i + 1 < all.size(); i++) {
                due.holds(text(all.get(i)) + " ahead of " + text(all.get(i + 1)),
                    isGreater(all.get(i), all.get(i + 1)));
            }
        }
    }

    private static boolean isGreater(int[] x, int[] y) {
        for (int i = 0; i < 4; i++) {
            if (x[i] != y[i]) {
                return x[i] > y[i];
            }
        }
        return false;
    }

    /** "UNITS are the 24 NUMBERS with the NORM 1, by numbers 0 to 23: the greatest one first". */
    private static void units() {
        List<int[]> all = allOf(1);
        due.is("how many", all.size(), UNITS);
        for (int u = 0; u < UNITS; u++) {
            FourParts x = with(all.get(u), q(2, 0, 0, 0));
            due.is("its NORM", x.part(0, 4), 1);
            due.is("its number", x.part(0, 6), u);
            for (int side = 0; side <= 1; side++) {
                due.is("by its number", x.unit(2, 1, u, side), 0);
                due.same("by its number", text(parts(x, 2)), text(all.get(u)));
                due.is("1 is LIKE it", x.like(1, 0, side), u);
            }
        }
    }

    /** "s is LIKE t on the LEFT, if t is u s with a UNIT u, on the RIGHT, if t is s u": of all pairs of a NORM. */
    private static void like() {
        for (int n = 1; n <= 3; n++) {
            List<int[]> all = allOf(n);
            for (int[] s : all) {
                for (int side = 0; side <= 1; side++) {
                    List<String> likes = new ArrayList<>();
                    FourParts x = with(s);
                    for (int u = 0; u < UNITS; u++) {
                        x.unit(1, 0, u, side);
                        likes.add(text(parts(x, 1)));
                    }
                    isLike(s, all, likes, side);
                }
            }
        }
    }

    private static void isLike(int[] s, List<int[]> all, List<String> likes, int side) {
        FourParts x = with(s);
        for (int[] t : all) {
            int u = likes.indexOf(text(t));
            x.set(1, t[0], t[1], t[2], t[3]);
            due.is(text(s) + " and " + text(t), x.like(0, 1, side), u < 0 ? NONE : u);
        }
    }

    /**
     * "s is q t and a REST", "t q and a REST", a lesser one. q is NEAREST, if no q that is a UNIT off leaves less
     * (the UNITS tell all neighbours of a NUMBER), and of like ones wholes go ahead of halves, and then the one
     * that went up.
     */
    private static void divided() {
        Random random = new Random(13);
        for (int round = 0; round < 6000; round++) {
            int[] by = some(random, 3 + random.nextInt(12));
            if (by[0] == 0 && by[1] == 0 && by[2] == 0 && by[3] == 0) {
                continue;
            }
            isDivided(some(random, 40), by, round % 2);
        }
        for (int[] by : allOf(4)) {
            isDivided(some(random, 6), by, RIGHT);
            isDivided(some(random, 6), by, LEFT);
        }
    }

    private static void isDivided(int[] s, int[] t, int side) {
        String name = text(s) + " by " + text(t) + (side == RIGHT ? " on the RIGHT" : " on the LEFT");
        FourParts x = with(s, t);
        due.is(name, x.divide(2, 3, 0, 1, side), 0);
        due.is(name, x.work(4, 2, side == RIGHT ? 2 : 1, side == RIGHT ? 1 : 2), 0);
        due.is(name, x.work(4, 0, 4, 3), 0);
        due.is(name + ": both together", x.like(4, 0, RIGHT), 0);
        int off = x.part(3, 4);
        due.holds(name + ": a lesser REST", off < x.part(1, 4));
        due.holds(name + ": not above half", 2 * off <= x.part(1, 4));
        boolean halves = x.part(2, 0) % 2 != 0;
        for (int u = 0; u < UNITS; u++) {
            x.set(5, 2, 0, 0, 0);
            x.unit(5, 5, u, RIGHT);
            x.work(6, 2, side == RIGHT ? 5 : 1, side == RIGHT ? 1 : 5);
            x.work(6, 1, 3, 6);
            int there = x.part(6, 4);
            due.holds(name + ": none nearer", there >= off);
            if (there == off) {
                isTheFirst(name, parts(x, 5), halves);
            }
        }
    }

    /** There is a second q, as near, that UNIT off. */
    private static void isTheFirst(String name, int[] unit, boolean halves) {
        if (unit[0] % 2 != 0) {
            due.holds(name + ": of wholes and halves the wholes", !halves);
            return;
        }
        due.holds(name + ": gone up", unit[0] + unit[1] + unit[2] + unit[3] < 0);
    }

    private static boolean divides(FourParts x, int g, int s, int side) {
        due.is("divide", x.divide(14, 15, s, g, side), 0);
        return x.part(15, 4) == 0;
    }

    /** THE DIVISOR leaves no REST of either, whichever is told first, and is the greatest one that is LIKE it. */
    private static void divisorDividesBoth() {
        Random random = new Random(14);
        for (int round = 0; round < 3000; round++) {
            int side = round % 2;
            FourParts x = with(some(random, 8), some(random, 40), some(random, 40));
            x.work(1, 2, side == RIGHT ? 1 : 0, side == RIGHT ? 0 : 1);
            x.work(2, 2, side == RIGHT ? 2 : 0, side == RIGHT ? 0 : 2);
            if (x.part(1, 4) == 0 && x.part(2, 4) == 0) {
                continue;
            }
            due.is("its NORM", x.divisor(3, 1, 2, side), x.part(3, 4));
            due.holds("of the first", divides(x, 3, 1, side));
            due.holds("of the second", divides(x, 3, 2, side));
            due.is("its NORM", x.divisor(4, 2, 1, side), x.part(3, 4));
            due.is("the other way round", x.like(3, 4, RIGHT), 0);
            int[] greatest = parts(x, 3);
            for (int u = 0; u < UNITS; u++) {
                x.unit(5, 3, u, side == RIGHT ? LEFT : RIGHT);
                due.holds("the greatest one", !isGreater(parts(x, 5), greatest));
            }
        }
    }

    /** All that leave no REST of either leave none of THE DIVISOR. */
    private static void divisorIsTheGreatestCommonOne() {
        Random random = new Random(15);
        List<int[]> small = new ArrayList<>();
        for (int n = 2; n <= 7; n++) {
            small.addAll(allOf(n));
        }
        for (int round = 0; round < 60; round++) {
            int side = round % 2;
            int[] common = small.get(random.nextInt(small.size()));
            int[] s = some(random, 20);
            int[] t = some(random, 20);
            for (int[] c : small) {
                FourParts x = with(common, s, t, c);
                x.work(1, 2, side == RIGHT ? 1 : 0, side == RIGHT ? 0 : 1);
                x.work(2, 2, side == RIGHT ? 2 : 0, side == RIGHT ? 0 : 2);
                if (x.part(1, 4) == 0 && x.part(2, 4) == 0) {
                    continue;
                }
                due.holds("there is one", x.divisor(4, 1, 2, side) > 0);
                boolean ofBoth = divides(x, 3, 1, side) && divides(x, 3, 2, side);
                due.holds("a common one divides it, no other does", divides(x, 3, 4, side) == ofBoth);
            }
        }
    }

    /** "a NUMBER that is not 0, if no whole above 1 times a NUMBER is it": of all up to the NORM 100. */
    private static void primitive() {
        due.is("0", with(q(0, 0, 0, 0)).part(0, 5), 0);
        for (int n = 1; n <= 100; n++) {
            Set<String> times = new HashSet<>();
            for (int m = 2; m * m <= n; m++) {
                if (n % (m * m) == 0) {
                    for (int[] r : allOf(n / (m * m))) {
                        times.add(text(q(m * r[0], m * r[1], m * r[2], m * r[3])));
                    }
                }
            }
            int count = 0;
            for (int[] r : allOf(n)) {
                boolean want = !times.contains(text(r));
                due.is("PRIMITIVE " + text(r), with(r).part(0, 5), want ? 1 : 0);
                count += want ? 1 : 0;
            }
            due.is("how many of " + n, new FourParts().many(n, 2), count);
        }
    }

    /** "FACTOR 0 is THE DIVISOR of p0 and q on the LEFT, q is FACTOR 0 times what is left, and so on with that". */
    private static void ways() {
        long[][] orders = {{2}, {3}, {7}, {2, 3}, {3, 2}, {3, 3}, {3, 5}, {5, 3}, {2, 7}, {7, 2}, {5, 5}, {2, 3, 5},
            {5, 2, 3}, {3, 5, 2}, {3, 3, 2}, {3, 2, 3}, {2, 3, 3}, {3, 3, 3}, {3, 3, 5}, {3, 5, 3}, {5, 3, 3}, {7, 7}};
        for (long[] primes : orders) {
            int norm = 1;
            for (long p : primes) {
                norm *= (int) p;
            }
            for (int[] r : allOf(norm)) {
                FourParts x = with(r);
                if (x.part(0, 5) == 1) {
                    isWay(x, primes);
                }
            }
        }
    }

    private static void isWay(FourParts x, long[] primes) {
        x.sheet(0, 2, primes.length);
        for (int k = 0; k < primes.length; k++) {
            x.put(0, k, primes[k]);
        }
        due.is("way", x.way(0, 0, 0, primes.length), primes.length);
        x.set(4, 2, 0, 0, 0);
        for (int k = 0; k < primes.length; k++) {
            due.is("the NORM of FACTOR " + k, x.factor(1, k), primes[k]);
            due.is("the product so far", x.work(4, 2, 4, 1), 0);
            if (k == primes.length - 1) {
                due.is("the last is what is left", x.like(1, k == 0 ? 0 : 3, RIGHT), 0);
                break;
            }
            x.set(2, (int) (2 * primes[k]), 0, 0, 0);
            due.is("THE DIVISOR of it", x.divisor(2, 2, k == 0 ? 0 : 3, LEFT), primes[k]);
            due.is("is FACTOR " + k, x.like(1, 2, RIGHT), 0);
            due.is("what is left", x.divide(3, 5, k == 0 ? 0 : 3, 1, LEFT), 0);
            due.is("with no REST", x.part(5, 4), 0);
        }
        due.is("the product of all", x.like(4, 0, RIGHT), 0);
        due.is("no FACTOR beyond", x.factor(1, primes.length), -2);
    }
}

import java.util.ArrayList;
import java.util.Collections;
import java.util.List;
import java.util.Random;

/** Promises 14 and 15: way, factor. */
public final class WaysTest {
    private static final int BAD = -1, NO = -2, NULL = -11, INDEX = -12, SIZE = -13;
    private static final int MIN = Integer.MIN_VALUE, MAX = Integer.MAX_VALUE;

    private static final Due due = new Due();

    public static void main(String[] args) {
        twoPrimes();
        onePrime();
        twelvePrimes();
        greatPrimes();
        anyOrder();
        sorts();
        keepsTheLatest();
        wayRefuses();
        wayRefusesByNo();
        factorRefuses();
        due.end();
    }

    private static FourParts with(int a, int b, int c, int d, long... places) {
        FourParts x = new FourParts();
        due.is("set", x.set(0, a, b, c, d), 0);
        x.sheet(0, 2, places.length);
        for (int i = 0; i < places.length; i++) {
            x.put(0, i, places[i]);
        }
        return x;
    }

    private static void twoPrimes() {
        FourParts x = with(6, 4, 2, 0, 2, 7, 2);
        due.is("along 2, 7", x.way(0, 0, 0, 2), 2);
        due.is("FACTOR 0", x.factor(1, 0), 2);
        due.parts("FACTOR 0", x, 1, 2, 2, 0, 0);
        due.is("FACTOR 1", x.factor(2, 1), 7);
        due.parts("FACTOR 1", x, 2, 5, -1, 1, -1);
        due.parts("the number stays", x, 0, 6, 4, 2, 0);
        due.is("along 7, 2", x.way(0, 0, 1, 2), 2);
        due.is("FACTOR 0", x.factor(1, 0), 7);
        due.is("FACTOR 1", x.factor(2, 1), 2);
        x.work(3, 2, 1, 2);
        due.parts("their product", x, 3, 6, 4, 2, 0);
        isGreatest(x, 1);
    }

    /** The last FACTOR is what is left: with one prime the number itself, not the greatest that is LIKE it. */
    private static void onePrime() {
        FourParts x = with(-2, 0, 2, 2, 3);
        due.is("along 3", x.way(0, 0, 0, 1), 1);
        due.is("FACTOR 0", x.factor(1, 0), 3);
        due.parts("FACTOR 0", x, 1, -2, 0, 2, 2);
        due.is("no FACTOR 1", x.factor(1, 1), NO);
    }

    private static void twelvePrimes() {
        FourParts x = with(2, 2, 2, 0, 3, 3, 3, 3, 3, 3, 3, 3, 3, 3, 3, 3, 3);
        x.set(1, 2, 2, 2, 0);
        for (int k = 1; k < 12; k++) {
            x.work(0, 2, 0, 1);
        }
        due.is("norm", x.part(0, 4), 531441);
        due.is("along twelve", x.way(0, 0, 1, 12), 12);
        x.set(2, 2, 0, 0, 0);
        for (int k = 0; k < 12; k++) {
            due.is("FACTOR " + k, x.factor(3, k), 3);
            x.work(2, 2, 2, 3);
        }
        due.is("their product", x.like(2, 0, 0), 0);
        due.is("no FACTOR 12", x.factor(3, 12), NO);
        due.is("along eleven", x.way(0, 0, 1, 11), NO);
        due.is("along thirteen", x.way(0, 0, 0, 13), BAD);
    }

    private static void greatPrimes() {
        FourParts x = with(20000, 19990, 19982, 20000, 199860053, 2, 199860053);
        for (int i = 0; i < 2; i++) {
            due.is("along great primes", x.way(0, 0, i, 2), 2);
            due.is("FACTOR 0", x.factor(1, 0), i == 0 ? 199860053 : 2);
            due.is("FACTOR 1", x.factor(2, 1), i == 0 ? 2 : 199860053);
            x.work(3, 2, 1, 2);
            due.parts("their product", x, 3, 20000, 19990, 19982, 20000);
            isGreatest(x, 1);
        }
    }

    private static void isGreatest(FourParts x, int s) {
        x.divisor(4, s, 15, 1);
        due.is("the greatest that is LIKE it on the RIGHT", x.like(s, 4, 0), 0);
    }

    private static void anyOrder() {
        Random random = new Random(9);
        for (int round = 0; round < 3000; round++) {
            int width = round % 3 == 0 ? 10000 : 40;
            int odd = random.nextInt(2);
            int[] q = new int[4];
            for (int i = 0; i < 4; i++) {
                q[i] = 2 * (random.nextInt(width) - width / 2) + odd;
            }
            along(q, random);
        }
    }

    private static void along(int[] q, Random random) {
        FourParts x = with(q[0], q[1], q[2], q[3]);
        List<Long> primes = primesOf(x.part(0, 4));
        Collections.shuffle(primes, random);
        int n = primes.size();
        if (n == 0 || n > 12) {
            return;
        }
        x.sheet(0, 2, n);
        for (int k = 0; k < n; k++) {
            x.put(0, k, primes.get(k));
        }
        if (x.part(0, 5) == 0) {
            due.is("not PRIMITIVE", x.way(0, 0, 0, n), NO);
            return;
        }
        due.is("way", x.way(0, 0, 0, n), n);
        x.set(2, 2, 0, 0, 0);
        for (int k = 0; k < n; k++) {
            due.is("the norm of FACTOR " + k, x.factor(1, k), primes.get(k));
            if (k < n - 1) {
                isGreatest(x, 1);
            }
            x.work(2, 2, 2, 1);
        }
        due.is("their product", x.like(2, 0, 0), 0);
    }

    private static List<Long> primesOf(long n) {
        List<Long> primes = new ArrayList<>();
        long left = n;
        for (long p = 2; left > 1; p = p * p > left ? left : p + 1) {
            while (left > 1 && left % p == 0) {
                primes.add(p);
                left /= p;
            }
        }
        return primes;
    }

    private static void sorts() {
        for (int kind = 0; kind <= 2; kind++) {
            FourParts x = with(6, 4, 2, 0);
            x.sheet(3, kind, 5);
            x.put(3, 3, 7);
            x.put(3, 4, 2);
            due.is("on a row of sort " + kind, x.way(0, 3, 3, 2), 2);
            due.is("FACTOR 0", x.factor(1, 0), 7);
        }
        FourParts x = with(6, 4, 2, 0, 2, (1L << 32) + 7);
        due.is("a long is not cut", x.way(0, 0, 0, 2), NO);
    }

    private static void keepsTheLatest() {
        FourParts x = with(6, 4, 2, 0, 2, 7, 3, 5);
        x.way(0, 0, 0, 2);
        x.set(0, 2, 0, 0, 0);
        x.put(0, 0, 11);
        x.sheet(0, -1, 0);
        due.is("FACTOR 1 stays", x.factor(0, 1), 7);
        due.is("a refused way", x.way(0, 0, 0, 1), NULL);
        due.is("a refused way", x.way(16, 0, 0, 1), BAD);
        x.sheet(0, 1, 4);
        due.is("a refused way", x.way(0, 0, 0, 1), NO);
        due.is("FACTOR 0 stays", x.factor(0, 0), 2);
        x.set(0, 2, 4, 0, 0);
        x.put(0, 0, 5);
        due.is("a shorter way", x.way(0, 0, 0, 1), 1);
        due.is("its FACTOR 0", x.factor(1, 0), 5);
        due.is("it has no FACTOR 1", x.factor(1, 1), NO);
        due.parts("nothing changed", x, 1, 2, 4, 0, 0);
    }

    private static void wayRefuses() {
        FourParts x = with(6, 4, 2, 0, 2, 7);
        due.is("s -1", x.way(-1, 0, 0, 2), BAD);
        due.is("s 16", x.way(16, 0, 0, 2), BAD);
        due.is("r -1", x.way(0, -1, 0, 2), BAD);
        due.is("r 6", x.way(0, 6, 0, 2), BAD);
        due.is("n 0", x.way(0, 0, 0, 0), BAD);
        due.is("n 13", x.way(0, 0, 0, 13), BAD);
        due.is("n max", x.way(0, 0, 0, MAX), BAD);
        due.is("n 0 ahead of NULL", x.way(0, 1, 0, 0), BAD);
        due.is("n 13 ahead of NULL", x.way(0, 1, 0, 13), BAD);
        due.is("s ahead of SIZE", x.way(16, 0, 0, -1), BAD);
        due.is("r ahead of SIZE", x.way(0, 6, 0, -1), BAD);
        due.is("NULL", x.way(0, 1, 0, 2), NULL);
        due.is("NULL ahead of SIZE", x.way(0, 1, 0, -1), NULL);
        due.is("NULL ahead of INDEX", x.way(0, 1, -1, 1), NULL);
        due.is("SIZE", x.way(0, 0, 0, -1), SIZE);
        due.is("SIZE", x.way(0, 0, 0, MIN), SIZE);
        due.is("SIZE ahead of INDEX", x.way(0, 0, -1, -1), SIZE);
        due.is("INDEX", x.way(0, 0, -1, 2), INDEX);
        due.is("INDEX", x.way(0, 0, 1, 2), INDEX);
        due.is("INDEX", x.way(0, 0, 0, 3), INDEX);
        due.is("INDEX", x.way(0, 0, MAX, 12), INDEX);
        due.is("INDEX", x.way(0, 0, MIN, 12), INDEX);
        due.is("INDEX ahead of NO", x.way(5, 0, 1, 2), INDEX);
        due.is("no way", x.factor(0, 0), NO);
    }

    private static void wayRefusesByNo() {
        due.is("of 0", with(0, 0, 0, 0, 2).way(0, 0, 0, 1), NO);
        due.is("of a UNIT", with(1, 1, 1, 1, 2).way(0, 0, 0, 1), NO);
        due.is("of one that is not PRIMITIVE", with(6, 0, 0, 0, 3, 3).way(0, 0, 0, 2), NO);
        due.is("of one that is not PRIMITIVE", with(2, 2, 2, 2, 2, 2).way(0, 0, 0, 2), NO);
        due.is("of one that is not PRIMITIVE", with(6, 6, 6, 6, 2, 2, 3, 3).way(0, 0, 0, 4), NO);
        due.is("14 is no prime", with(6, 4, 2, 0, 14).way(0, 0, 0, 1), NO);
        due.is("1 is no prime", with(6, 4, 2, 0, 1, 2, 7).way(0, 0, 0, 3), NO);
        due.is("-1 is no prime", with(6, 4, 2, 0, -1, -2, 7).way(0, 0, 0, 3), NO);
        due.is("0 is no prime", with(6, 4, 2, 0, 0, 7).way(0, 0, 0, 2), NO);
        due.is("-2, -7 are no primes", with(6, 4, 2, 0, -2, -7).way(0, 0, 0, 2), NO);
        due.is("9 is no prime", with(4, 4, 2, 0, 9).way(0, 0, 0, 1), NO);
        due.is("25 is no prime", with(8, 6, 0, 0, 25).way(0, 0, 0, 1), NO);
        due.is("too little", with(6, 4, 2, 0, 2, 7).way(0, 0, 0, 1), NO);
        due.is("too much", with(6, 4, 2, 0, 2, 7, 2).way(0, 0, 0, 3), NO);
        due.is("other primes", with(6, 4, 2, 0, 2, 5).way(0, 0, 0, 2), NO);
        due.is("the greatest long", with(6, 4, 2, 0, Long.MAX_VALUE, 7).way(0, 0, 0, 2), NO);
        due.is("the least long", with(6, 4, 2, 0, 2, Long.MIN_VALUE).way(0, 0, 0, 2), NO);
        twoGreatPrimes();
    }

    /** The search for a divisor of what is no prime must go nearly to 20000. */
    private static void twoGreatPrimes() {
        FourParts x = with(19831, 19833, 19609, 19971, 19661L * 19963, 19963, 19661);
        due.is("a product of two primes is no prime", x.way(0, 0, 0, 1), NO);
        due.is("both", x.way(0, 0, 1, 2), 2);
        due.is("FACTOR 1", x.factor(1, 1), 19661);
    }

    private static void factorRefuses() {
        FourParts x = with(6, 4, 2, 0, 2, 7);
        due.is("no way yet", x.factor(0, 0), NO);
        due.is("BAD ahead of NO", x.factor(16, 0), BAD);
        x.way(0, 0, 0, 2);
        due.is("s -1", x.factor(-1, 0), BAD);
        due.is("s 16", x.factor(16, 0), BAD);
        due.is("k -1", x.factor(0, -1), NO);
        due.is("k 2", x.factor(0, 2), NO);
        due.is("k max", x.factor(0, MAX), NO);
        due.is("k min", x.factor(0, MIN), NO);
        due.is("BAD ahead of NO", x.factor(16, 2), BAD);
        due.parts("nothing changed", x, 0, 6, 4, 2, 0);
    }
}

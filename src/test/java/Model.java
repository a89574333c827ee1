import java.math.BigInteger;
import java.util.ArrayList;
import java.util.Arrays;
import java.util.LinkedHashMap;
import java.util.List;
import java.util.Map;

/**
 * The document once more, with no eye to speed: numbers of any size, a table of the products of
 * 1, i, j, k, nearest parts by search, lists by trying all. The tests hold the program against it.
 */
final class Model {
    static final int BAD = -1, NO = -2, HIGH = -3, NONE = -4;
    static final int NULL = -11, INDEX = -12, SIZE = -13, STORE = -14, HALF = -15, HIGH_ON_SHEET = -16;

    private static final int[][] BASIS = {{0, 1, 2, 3}, {1, 0, 3, 2}, {2, 3, 0, 1}, {3, 2, 1, 0}};
    private static final int[][] SIGN = {{1, 1, 1, 1}, {1, -1, 1, -1}, {1, -1, -1, 1}, {1, 1, -1, -1}};
    private static final List<List<long[]>> LISTS = new ArrayList<>();
    private static final List<long[]> UNITS;

    static {
        for (int n = 0; n <= 200; n++) {
            LISTS.add(null);
        }
        UNITS = listOf(1);
    }

    final long[][] registers = new long[16][4];
    private final Object[] sheets = new Object[6];
    private List<long[]> factors = new ArrayList<>();

    // ---- what the words mean

    static List<long[]> listOf(int n) {
        if (LISTS.get(n) == null) {
            LISTS.set(n, tryAll(n));
        }
        return LISTS.get(n);
    }

    private static List<long[]> tryAll(int n) {
        List<long[]> found = new ArrayList<>();
        int widest = (int) Math.ceil(2 * Math.sqrt(n));
        for (int a = -widest; a <= widest; a++) {
            for (int b = -widest; b <= widest; b++) {
                for (int c = -widest; c <= widest; c++) {
                    int left = 4 * n - a * a - b * b - c * c;
                    int root = left < 0 ? -1 : (int) Math.round(Math.sqrt(left));
                    if (root < 0 || root * root != left) {
                        continue;
                    }
                    addNumber(found, a, b, c, root);
                    if (root > 0) {
                        addNumber(found, a, b, c, -root);
                    }
                }
            }
        }
        found.sort((x, y) -> Arrays.compare(y, x));
        return found;
    }

    private static void addNumber(List<long[]> found, long... parts) {
        if (isNumber(parts)) {
            found.add(parts);
        }
    }

    static boolean isNumber(long... q) {
        long odd = 0;
        for (long part : q) {
            odd += Math.floorMod(part, 2L);
        }
        return odd == 0 || odd == 4;
    }

    static long norm(long[] q) {
        long sum = 0;
        for (long part : q) {
            sum += part * part;
        }
        return sum / 4;
    }

    static long[] mirror(long[] q) {
        return new long[] {q[0], -q[1], -q[2], -q[3]};
    }

    static long[] product(long[] x, long[] y) {
        long[] twice = new long[4];
        for (int i = 0; i < 4; i++) {
            for (int j = 0; j < 4; j++) {
                twice[BASIS[i][j]] += SIGN[i][j] * x[i] * y[j];
            }
        }
        for (int i = 0; i < 4; i++) {
            if (twice[i] % 2 != 0) {
                throw new IllegalStateException("a product with a quarter");
            }
            twice[i] /= 2;
        }
        return twice;
    }

    static boolean isPrimitive(long[] q) {
        if (norm(q) == 0) {
            return false;
        }
        long greatest = 0;
        for (long part : q) {
            greatest = Math.max(greatest, Math.abs(part));
        }
        for (long m = 2; m <= greatest; m++) {
            if (q[0] % m == 0 && q[1] % m == 0 && q[2] % m == 0 && q[3] % m == 0
                && isNumber(q[0] / m, q[1] / m, q[2] / m, q[3] / m)) {
                return false;
            }
        }
        return true;
    }

    /** The q and the REST. */
    static long[][] divided(long[] s, long[] t, int side) {
        long[] over = side == 0 ? product(s, mirror(t)) : product(mirror(t), s);
        long norm = norm(t);
        long[] wholes = new long[4];
        long[] halves = new long[4];
        for (int i = 0; i < 4; i++) {
            wholes[i] = nearest(over[i], norm, 0);
            halves[i] = nearest(over[i], norm, 1);
        }
        long[] q = off(over, halves, norm).compareTo(off(over, wholes, norm)) < 0 ? halves : wholes;
        long[] back = side == 0 ? product(q, t) : product(t, q);
        long[] rest = new long[4];
        for (int i = 0; i < 4; i++) {
            rest[i] = s[i] - back[i];
        }
        return new long[][] {q, rest};
    }

    /** Of all m, even or odd as told, the one nearest to over / norm; of two the greater. */
    private static long nearest(long over, long norm, int odd) {
        long start = over / norm;
        long best = Long.MIN_VALUE;
        for (long m = start - 4; m <= start + 4; m++) {
            if (Math.floorMod(m, 2L) != odd) {
                continue;
            }
            if (best == Long.MIN_VALUE || Math.abs(over - m * norm) <= Math.abs(over - best * norm)) {
                best = m;
            }
        }
        return best;
    }

    private static BigInteger off(long[] over, long[] q, long norm) {
        BigInteger sum = BigInteger.ZERO;
        for (int i = 0; i < 4; i++) {
            sum = sum.add(BigInteger.valueOf(over[i] - norm * q[i]).pow(2));
        }
        return sum;
    }

    static long[] divisorOf(long[] s, long[] t, int side) {
        if (norm(t) != 0) {
            return divisorOf(t, divided(s, t, side)[1], side);
        }
        long[] best = s;
        for (long[] u : UNITS) {
            long[] like = side == 0 ? product(u, s) : product(s, u);
            best = Arrays.compare(like, best) > 0 ? like : best;
        }
        return best;
    }

    static List<long[]> wayOf(long[] q, List<Long> primes) {
        List<long[]> way = new ArrayList<>();
        long[] left = q;
        for (long p : primes.subList(0, primes.size() - 1)) {
            long[] f = divisorOf(new long[] {2 * p, 0, 0, 0}, left, 1);
            way.add(f);
            left = leftAfter(f, left);
        }
        way.add(left);
        return way;
    }

    private static long[] leftAfter(long[] f, long[] q) {
        long[] left = product(mirror(f), q);
        long norm = norm(f);
        for (int i = 0; i < 4; i++) {
            left[i] /= norm;
        }
        if (!Arrays.equals(product(f, left), q)) {
            throw new IllegalStateException("a factor that does not divide");
        }
        return left;
    }

    private static boolean isHigh(long[] q) {
        for (long part : q) {
            if (part > 20000 || part < -20000) {
                return true;
            }
        }
        return false;
    }

    // ---- sheets

    private static boolean outside(long x, long least, long most) {
        return x < least || x > most;
    }

    private int length(int r) {
        Object row = sheets[r];
        return row == null ? -1 : java.lang.reflect.Array.getLength(row);
    }

    private long place(int r, int i) {
        return java.lang.reflect.Array.getLong(sheets[r], i);
    }

    private void fill(int r, int i, long v) {
        Object row = sheets[r];
        if (row instanceof byte[] bytes) {
            bytes[i] = (byte) v;
        } else if (row instanceof int[] ints) {
            ints[i] = (int) v;
        } else {
            ((long[]) row)[i] = v;
        }
    }

    private int lacks(int r, int i, int n) {
        if (sheets[r] == null) {
            return NULL;
        }
        return i < 0 || (long) i + n > length(r) ? INDEX : 0;
    }

    int sheet(int r, int kind, int n) {
        if (outside(r, 0, 5) || outside(kind, -1, 2) || kind != -1 && n > 16) {
            return BAD;
        }
        if (kind != -1 && n < 0) {
            return SIZE;
        }
        sheets[r] = kind == -1 ? null : kind == 0 ? new byte[n] : kind == 1 ? new int[n] : new long[n];
        return 0;
    }

    int put(int r, int i, long v) {
        if (outside(r, 0, 5)) {
            return BAD;
        }
        int lack = lacks(r, i, 1);
        if (lack == 0) {
            fill(r, i, v);
        }
        return lack;
    }

    int copy(int r, int i, int t, int j, int n) {
        if (outside(r, 0, 5) || outside(t, 0, 5)) {
            return BAD;
        }
        if (sheets[r] == null || sheets[t] == null) {
            return NULL;
        }
        if (sheets[r].getClass() != sheets[t].getClass()) {
            return STORE;
        }
        if (n < 0 || lacks(r, i, n) != 0 || lacks(t, j, n) != 0) {
            return INDEX;
        }
        long[] ahead = new long[n];
        for (int k = 0; k < n; k++) {
            ahead[k] = place(r, i + k);
        }
        for (int k = 0; k < n; k++) {
            fill(t, j + k, ahead[k]);
        }
        return 0;
    }

    int read(int s, int r, int i) {
        if (outside(s, 0, 15) || outside(r, 0, 5)) {
            return BAD;
        }
        int lack = lacks(r, i, 4);
        if (lack != 0) {
            return lack;
        }
        long[] q = {place(r, i), place(r, i + 1), place(r, i + 2), place(r, i + 3)};
        if (!isNumber(q)) {
            return HALF;
        }
        if (isHigh(q)) {
            return HIGH_ON_SHEET;
        }
        registers[s] = q;
        return 0;
    }

    int write(int s, int r, int i) {
        if (outside(s, 0, 15) || outside(r, 0, 5)) {
            return BAD;
        }
        int lack = lacks(r, i, 4);
        for (int k = 0; k < 4 && lack == 0; k++) {
            fill(r, i + k, registers[s][k]);
        }
        return lack;
    }

    // ---- numbers

    private int hold(int s, long[] q) {
        if (isHigh(q)) {
            return HIGH;
        }
        registers[s] = q;
        return 0;
    }

    int set(int s, int a, int b, int c, int d) {
        if (outside(s, 0, 15)) {
            return BAD;
        }
        return isNumber(a, b, c, d) ? hold(s, new long[] {a, b, c, d}) : NO;
    }

    int part(int s, int what) {
        if (outside(s, 0, 15) || outside(what, 0, 6)) {
            return -1000000000;
        }
        long[] q = registers[s];
        if (what < 4) {
            return (int) q[what];
        }
        if (what == 4) {
            return (int) norm(q);
        }
        if (what == 5) {
            return isPrimitive(q) ? 1 : 0;
        }
        for (int u = 0; u < 24; u++) {
            if (Arrays.equals(UNITS.get(u), q)) {
                return u;
            }
        }
        return NONE;
    }

    int work(int s, int how, int t, int u) {
        if (outside(s, 0, 15) || outside(how, 0, 3) || outside(t, 0, 15) || how != 3 && outside(u, 0, 15)) {
            return BAD;
        }
        if (how == 3) {
            return hold(s, mirror(registers[t]));
        }
        if (how == 2) {
            return hold(s, product(registers[t], registers[u]));
        }
        long[] q = new long[4];
        for (int i = 0; i < 4; i++) {
            q[i] = registers[t][i] + (how == 0 ? 1 : -1) * registers[u][i];
        }
        return hold(s, q);
    }

    int unit(int s, int t, int u, int side) {
        if (outside(s, 0, 15) || outside(t, 0, 15) || outside(u, 0, 23) || outside(side, 0, 1)) {
            return BAD;
        }
        long[] x = registers[t];
        return hold(s, side == 0 ? product(x, UNITS.get(u)) : product(UNITS.get(u), x));
    }

    int divide(int s, int r, int t, int u, int side) {
        if (outside(s, 0, 15) || outside(r, 0, 15) || outside(t, 0, 15) || outside(u, 0, 15)
            || outside(side, 0, 1) || s == r) {
            return BAD;
        }
        if (norm(registers[u]) == 0) {
            return NO;
        }
        long[][] both = divided(registers[t], registers[u], side);
        if (isHigh(both[0]) || isHigh(both[1])) {
            return HIGH;
        }
        registers[s] = both[0];
        registers[r] = both[1];
        return 0;
    }

    int divisor(int s, int t, int u, int side) {
        if (outside(s, 0, 15) || outside(t, 0, 15) || outside(u, 0, 15) || outside(side, 0, 1)) {
            return BAD;
        }
        if (norm(registers[t]) == 0 && norm(registers[u]) == 0) {
            return NO;
        }
        long[] q = divisorOf(registers[t], registers[u], side);
        return hold(s, q) == HIGH ? HIGH : (int) norm(q);
    }

    int like(int s, int t, int side) {
        if (outside(s, 0, 15) || outside(t, 0, 15) || outside(side, 0, 1)) {
            return BAD;
        }
        for (int u = 0; u < 24; u++) {
            long[] x = registers[s];
            long[] like = side == 0 ? product(x, UNITS.get(u)) : product(UNITS.get(u), x);
            if (Arrays.equals(like, registers[t])) {
                return u;
            }
        }
        return NONE;
    }

    // ---- ways

    int way(int s, int r, int i, int n) {
        if (outside(s, 0, 15) || outside(r, 0, 5) || n == 0 || n > 12) {
            return BAD;
        }
        if (sheets[r] == null) {
            return NULL;
        }
        if (n < 0) {
            return SIZE;
        }
        if (lacks(r, i, n) != 0) {
            return INDEX;
        }
        List<Long> primes = new ArrayList<>();
        BigInteger times = BigInteger.ONE;
        boolean allPrime = true;
        for (int k = 0; k < n; k++) {
            BigInteger p = BigInteger.valueOf(place(r, i + k));
            allPrime &= p.signum() > 0 && p.isProbablePrime(60);
            times = times.multiply(p);
            primes.add(p.longValue());
        }
        if (!allPrime || !isPrimitive(registers[s]) || !times.equals(BigInteger.valueOf(norm(registers[s])))) {
            return NO;
        }
        factors = wayOf(registers[s], primes);
        return n;
    }

    int factor(int s, int k) {
        if (outside(s, 0, 15)) {
            return BAD;
        }
        if (outside(k, 0, factors.size() - 1)) {
            return NO;
        }
        return hold(s, factors.get(k)) == HIGH ? HIGH : (int) norm(factors.get(k));
    }

    // ---- norms

    int many(int n, int what) {
        if (outside(n, 1, 200) || outside(what, 0, 2)) {
            return BAD;
        }
        int count = 0;
        for (long[] q : listOf(n)) {
            boolean counts = what == 0 || (what == 1 ? q[0] % 2 == 0 : isPrimitive(q));
            count += counts ? 1 : 0;
        }
        return count;
    }

    int listed(int s, int n, int i) {
        if (outside(s, 0, 15) || outside(n, 1, 200) || i < 0) {
            return BAD;
        }
        if (i >= listOf(n).size()) {
            return NONE;
        }
        registers[s] = listOf(n).get(i).clone();
        return 1;
    }

    // ---- turns

    int turn(int s, int i, int j) {
        if (outside(s, 0, 15) || outside(i, 0, 2) || outside(j, 0, 2)) {
            return -2000000000;
        }
        if (norm(registers[s]) == 0) {
            return -2000000001;
        }
        long[] v = new long[4];
        v[j + 1] = 2;
        return (int) (turnedWhole(s, v)[i + 1] / 2);
    }

    long turned(int s, int x, int y, int z, int i) {
        if (outside(s, 0, 15) || outside(x, -100, 100) || outside(y, -100, 100) || outside(z, -100, 100)
            || outside(i, 0, 2)) {
            return -1;
        }
        return turnedWhole(s, new long[] {0, 2 * x, 2 * y, 2 * z})[i + 1] / 2;
    }

    private long[] turnedWhole(int s, long[] v) {
        return product(product(registers[s], v), mirror(registers[s]));
    }

    // ---- what can be seen of it, told as Edge.look() tells it

    Map<String, String> look() {
        Map<String, String> seen = new LinkedHashMap<>();
        for (int s = 0; s < 16; s++) {
            seen.put("register " + s, told(registers[s]));
        }
        StringBuilder way = new StringBuilder();
        for (long[] f : factors) {
            way.append(way.length() == 0 ? "" : ", ").append(told(f));
        }
        seen.put("way", way.toString());
        seen.put("sheet 4", sheets[4] == null ? "MISSING" : "there");
        for (int r : new int[] {0, 1, 2, 3, 5}) {
            seen.put("sheet " + r, toldRow(r));
        }
        return seen;
    }

    private static String told(long[] q) {
        return q[0] + " " + q[1] + " " + q[2] + " " + q[3];
    }

    private String toldRow(int r) {
        if (sheets[r] == null) {
            return "MISSING";
        }
        StringBuilder text = new StringBuilder();
        text.append(sheets[r].getClass().getComponentType()).append('s');
        for (int i = 0; i < length(r); i++) {
            long v = place(r, i);
            String high = v % 2 == 0 ? "even-and-high" : "odd-and-high";
            text.append(' ').append(outside(v, -20000, 20000) ? high : "" + v);
        }
        return text.toString();
    }
}

/** Numbers of four parts, wholes and halves together, in REGISTERS and on SHEETS. */
public final class FourParts {
    public static final int BAD = -1, NO = -2, HIGH = -3, NONE = -4;

    private static final int NULL = -11, INDEX = -12, SIZE = -13, STORE = -14, HALF = -15;
    private static final int HIGH_ON_SHEET = -16;
    private static final int BAD_PART = -1000000000;
    private static final int BAD_TURN = -2000000000, TURN_OF_ZERO = -2000000001;
    private static final long BAD_TURNED = -1;

    private static final int REGISTERS = 16, SHEETS = 6, PLACES = 16, PRIMES = 12;
    private static final int HIGHEST_PART = 20000, HIGHEST_NORM = 200, HIGHEST_POINT = 100;
    private static final int MISSING = -1, BYTES = 0, INTS = 1, LONGS = 2;
    private static final int RIGHT = 0, LEFT = 1;

    private static final int UNITS = 24;
    private static final int[] UNIT_PARTS = {
        2, 0, 0, 0,
        1, 1, 1, 1, 1, 1, 1, -1, 1, 1, -1, 1, 1, 1, -1, -1,
        1, -1, 1, 1, 1, -1, 1, -1, 1, -1, -1, 1, 1, -1, -1, -1,
        0, 2, 0, 0, 0, 0, 2, 0, 0, 0, 0, 2,
        0, 0, 0, -2, 0, 0, -2, 0, 0, -2, 0, 0,
        -1, 1, 1, 1, -1, 1, 1, -1, -1, 1, -1, 1, -1, 1, -1, -1,
        -1, -1, 1, 1, -1, -1, 1, -1, -1, -1, -1, 1, -1, -1, -1, -1,
        -2, 0, 0, 0
    };

    private final Quad[] registers = new Quad[REGISTERS];
    private final Sheet[] sheets = new Sheet[SHEETS];
    private final Reckoner reckoner = new Reckoner();
    private final Norms norms = new Norms();
    private final Way latest = new Way();
    private final Quad result = new Quad();

    public FourParts() {
        for (int s = 0; s < registers.length; s++) {
            registers[s] = new Quad();
        }
        for (int r = 0; r < sheets.length; r++) {
            sheets[r] = new Sheet();
        }
    }

    // ---- sheets

    public int sheet(int r, int kind, int n) {
        Sheet row = sheetAt(r);
        if (row == null || kind < MISSING || kind > LONGS) {
            return BAD;
        }
        if (kind == MISSING) {
            row.renew(MISSING, 0);
            return 0;
        }
        if (n > PLACES) {
            return BAD;
        }
        if (n < 0) {
            return SIZE;
        }
        row.renew(kind, n);
        return 0;
    }

    public int put(int r, int i, long v) {
        Sheet row = sheetAt(r);
        if (row == null) {
            return BAD;
        }
        int refusal = refusalOf(row, i, 1);
        if (refusal != 0) {
            return refusal;
        }
        row.keep(i, v);
        return 0;
    }

    public int copy(int r, int i, int t, int j, int n) {
        Sheet from = sheetAt(r);
        Sheet to = sheetAt(t);
        if (from == null || to == null) {
            return BAD;
        }
        if (from.isMissing() || to.isMissing()) {
            return NULL;
        }
        if (from.kind != to.kind) {
            return STORE;
        }
        if (!from.reaches(i, n) || !to.reaches(j, n)) {
            return INDEX;
        }
        to.keepFrom(j, from, i, n);
        return 0;
    }

    public int read(int s, int r, int i) {
        Quad number = register(s);
        Sheet row = sheetAt(r);
        if (number == null || row == null) {
            return BAD;
        }
        int refusal = refusalOf(row, i, 4);
        if (refusal != 0) {
            return refusal;
        }
        result.become(row.at(i), row.at(i + 1), row.at(i + 2), row.at(i + 3));
        if (!result.isAllEvenOrAllOdd()) {
            return HALF;
        }
        if (result.isHigh()) {
            return HIGH_ON_SHEET;
        }
        number.becomeLike(result);
        return 0;
    }

    public int write(int s, int r, int i) {
        Quad number = register(s);
        Sheet row = sheetAt(r);
        if (number == null || row == null) {
            return BAD;
        }
        int refusal = refusalOf(row, i, 4);
        if (refusal != 0) {
            return refusal;
        }
        row.keep(i, number.a);
        row.keep(i + 1, number.b);
        row.keep(i + 2, number.c);
        row.keep(i + 3, number.d);
        return 0;
    }

    // ---- numbers

    public int set(int s, int a, int b, int c, int d) {
        Quad number = register(s);
        if (number == null) {
            return BAD;
        }
        result.become(a, b, c, d);
        if (!result.isAllEvenOrAllOdd()) {
            return NO;
        }
        return hold(number, result);
    }

    public int part(int s, int what) {
        Quad number = register(s);
        if (number == null) {
            return BAD_PART;
        }
        switch (what) {
            case 0: return (int) number.a;
            case 1: return (int) number.b;
            case 2: return (int) number.c;
            case 3: return (int) number.d;
            case 4: return (int) number.norm();
            case 5: return number.isPrimitive() ? 1 : 0;
            case 6: return unitNumber(number);
            default: return BAD_PART;
        }
    }

    public int work(int s, int how, int t, int u) {
        Quad number = register(s);
        Quad x = register(t);
        Quad y = how == 3 ? x : register(u);
        if (number == null || x == null || y == null) {
            return BAD;
        }
        switch (how) {
            case 0: result.becomeSum(x, y); break;
            case 1: result.becomeDifference(x, y); break;
            case 2: result.becomeProduct(x, y); break;
            case 3: result.becomeMirror(x); break;
            default: return BAD;
        }
        return hold(number, result);
    }

    public int unit(int s, int t, int u, int side) {
        Quad number = register(s);
        Quad x = register(t);
        if (number == null || x == null || u < 0 || u >= UNITS || !isSide(side)) {
            return BAD;
        }
        result.becomeUnit(u);
        result.becomeProductOn(side, x, result);
        return hold(number, result);
    }

    public int divide(int s, int r, int t, int u, int side) {
        Quad quotient = register(s);
        Quad rest = register(r);
        Quad x = register(t);
        Quad y = register(u);
        if (quotient == null || rest == null || x == null || y == null || s == r || !isSide(side)) {
            return BAD;
        }
        if (!reckoner.splitBy(x, y, side)) {
            return NO;
        }
        if (reckoner.quotient.isHigh() || reckoner.rest.isHigh()) {
            return HIGH;
        }
        quotient.becomeLike(reckoner.quotient);
        rest.becomeLike(reckoner.rest);
        return 0;
    }

    public int divisor(int s, int t, int u, int side) {
        Quad number = register(s);
        Quad x = register(t);
        Quad y = register(u);
        if (number == null || x == null || y == null || !isSide(side)) {
            return BAD;
        }
        if (x.isZero() && y.isZero()) {
            return NO;
        }
        reckoner.findCommon(x, y, side);
        return holdForNorm(number, reckoner.common);
    }

    public int like(int s, int t, int side) {
        Quad x = register(s);
        Quad y = register(t);
        if (x == null || y == null || !isSide(side)) {
            return BAD;
        }
        for (int u = 0; u < UNITS; u++) {
            result.becomeUnit(u);
            result.becomeProductOn(side, x, result);
            if (result.isSame(y)) {
                return u;
            }
        }
        return NONE;
    }

    // ---- ways

    public int way(int s, int r, int i, int n) {
        Quad number = register(s);
        Sheet row = sheetAt(r);
        if (number == null || row == null || n == 0 || n > PRIMES) {
            return BAD;
        }
        if (row.isMissing()) {
            return NULL;
        }
        if (n < 0) {
            return SIZE;
        }
        if (!row.reaches(i, n)) {
            return INDEX;
        }
        if (!number.isPrimitive() || !arePrimesWithProduct(row, i, n, number.norm())) {
            return NO;
        }
        latest.follow(number, row, i, n, reckoner);
        return n;
    }

    public int factor(int s, int k) {
        Quad number = register(s);
        if (number == null) {
            return BAD;
        }
        Quad found = latest.at(k);
        if (found == null) {
            return NO;
        }
        return holdForNorm(number, found);
    }

    // ---- norms

    public int many(int n, int what) {
        if (!isListedNorm(n)) {
            return BAD;
        }
        switch (what) {
            case 0: return Norms.countAll(n);
            case 1: return Norms.countWhole(n);
            case 2: return Norms.countPrimitive(n);
            default: return BAD;
        }
    }

    public int listed(int s, int n, int i) {
        Quad number = register(s);
        if (number == null || !isListedNorm(n) || i < 0) {
            return BAD;
        }
        return norms.find(n, i, number) ? 1 : NONE;
    }

    // ---- turns

    public int turn(int s, int i, int j) {
        Quad number = register(s);
        if (number == null || !isRow(i) || !isRow(j)) {
            return BAD_TURN;
        }
        if (number.isZero()) {
            return TURN_OF_ZERO;
        }
        return (int) number.turnAt(i, j);
    }

    public long turned(int s, int x, int y, int z, int i) {
        Quad number = register(s);
        if (number == null || !isPoint(x) || !isPoint(y) || !isPoint(z) || !isRow(i)) {
            return BAD_TURNED;
        }
        return number.turnAt(i, 0) * x + number.turnAt(i, 1) * y + number.turnAt(i, 2) * z;
    }

    // ---- what the calls share

    private Quad register(int s) {
        return s >= 0 && s < registers.length ? registers[s] : null;
    }

    private Sheet sheetAt(int r) {
        return r >= 0 && r < sheets.length ? sheets[r] : null;
    }

    private static int refusalOf(Sheet row, int i, int n) {
        if (row.isMissing()) {
            return NULL;
        }
        return row.reaches(i, n) ? 0 : INDEX;
    }

    private static int hold(Quad number, Quad value) {
        if (value.isHigh()) {
            return HIGH;
        }
        number.becomeLike(value);
        return 0;
    }

    private static int holdForNorm(Quad number, Quad value) {
        int refusal = hold(number, value);
        return refusal != 0 ? refusal : (int) number.norm();
    }

    private int unitNumber(Quad number) {
        for (int u = 0; u < UNITS; u++) {
            result.becomeUnit(u);
            if (result.isSame(number)) {
                return u;
            }
        }
        return NONE;
    }

    private static boolean isSide(int side) {
        return side == RIGHT || side == LEFT;
    }

    private static boolean isListedNorm(int n) {
        return n >= 1 && n <= HIGHEST_NORM;
    }

    private static boolean isRow(int i) {
        return i >= 0 && i <= 2;
    }

    private static boolean isPoint(int x) {
        return x >= -HIGHEST_POINT && x <= HIGHEST_POINT;
    }

    private static boolean arePrimesWithProduct(Sheet row, int i, int n, long norm) {
        long left = norm;
        for (int k = 0; k < n; k++) {
            long p = row.at(i + k);
            // Dividing first keeps what is tried for a prime no greater than the NORM.
            if (p < 2 || left % p != 0 || !isPrime(p)) {
                return false;
            }
            left /= p;
        }
        return left == 1;
    }

    private static boolean isPrime(long p) {
        if (p < 4) {
            return p >= 2;
        }
        if (p % 2 == 0) {
            return false;
        }
        // No NORM, and so no p that is tried, goes beyond the square of the highest PART.
        for (long m = 3; m <= HIGHEST_PART && m * m <= p; m += 2) {
            if (p % m == 0) {
                return false;
            }
        }
        return true;
    }

    /** Four PARTS, told doubled; on the way to a result they may go far beyond what a REGISTER holds. */
    private static final class Quad {
        long a;
        long b;
        long c;
        long d;

        void become(long first, long second, long third, long fourth) {
            a = first;
            b = second;
            c = third;
            d = fourth;
        }

        void becomeLike(Quad x) {
            become(x.a, x.b, x.c, x.d);
        }

        void becomeSum(Quad x, Quad y) {
            become(x.a + y.a, x.b + y.b, x.c + y.c, x.d + y.d);
        }

        void becomeDifference(Quad x, Quad y) {
            become(x.a - y.a, x.b - y.b, x.c - y.c, x.d - y.d);
        }

        void becomeMirror(Quad x) {
            become(x.a, -x.b, -x.c, -x.d);
        }

        /** Two doublings meet in a product, one is taken out again: each sum is even. */
        void becomeProduct(Quad x, Quad y) {
            become((x.a * y.a - x.b * y.b - x.c * y.c - x.d * y.d) / 2,
                (x.a * y.b + x.b * y.a + x.c * y.d - x.d * y.c) / 2,
                (x.a * y.c - x.b * y.d + x.c * y.a + x.d * y.b) / 2,
                (x.a * y.d + x.b * y.c - x.c * y.b + x.d * y.a) / 2);
        }

        /** The product in which y stands on that side of x. */
        void becomeProductOn(int side, Quad x, Quad y) {
            if (side == RIGHT) {
                becomeProduct(x, y);
            } else {
                becomeProduct(y, x);
            }
        }

        void becomeUnit(int u) {
            if (u < 0 || u >= UNITS) {
                return;
            }
            become(UNIT_PARTS[4 * u], UNIT_PARTS[4 * u + 1], UNIT_PARTS[4 * u + 2], UNIT_PARTS[4 * u + 3]);
        }

        /** Of x / (2 norm), the NUMBER whose PARTS are the nearest wholes. */
        void becomeNearestWholes(Quad x, long norm) {
            become(nearestWhole(x.a, norm), nearestWhole(x.b, norm),
                nearestWhole(x.c, norm), nearestWhole(x.d, norm));
        }

        /** Of x / (2 norm), the NUMBER whose PARTS are the nearest halves of odd numbers. */
        void becomeNearestHalves(Quad x, long norm) {
            become(nearestHalf(x.a, norm), nearestHalf(x.b, norm),
                nearestHalf(x.c, norm), nearestHalf(x.d, norm));
        }

        private static long nearestWhole(long part, long norm) {
            return norm > 0 ? 2 * Math.floorDiv(part + norm, 2 * norm) : 0;
        }

        private static long nearestHalf(long part, long norm) {
            return norm > 0 ? 2 * Math.floorDiv(part, 2 * norm) + 1 : 0;
        }

        /** How far norm times this is off x, as a sum of squares. */
        long offFrom(Quad x, long norm) {
            return square(x.a - norm * a) + square(x.b - norm * b)
                + square(x.c - norm * c) + square(x.d - norm * d);
        }

        private static long square(long x) {
            return x * x;
        }

        long norm() {
            return (a * a + b * b + c * c + d * d) / 4;
        }

        boolean isZero() {
            return a == 0 && b == 0 && c == 0 && d == 0;
        }

        boolean isSame(Quad x) {
            return a == x.a && b == x.b && c == x.c && d == x.d;
        }

        boolean isGreaterThan(Quad x) {
            if (a != x.a) {
                return a > x.a;
            }
            if (b != x.b) {
                return b > x.b;
            }
            if (c != x.c) {
                return c > x.c;
            }
            return d > x.d;
        }

        boolean isAllEvenOrAllOdd() {
            return (((a ^ b) | (a ^ c) | (a ^ d)) & 1) == 0;
        }

        boolean isHigh() {
            return isHighPart(a) || isHighPart(b) || isHighPart(c) || isHighPart(d);
        }

        private static boolean isHighPart(long part) {
            return part < -HIGHEST_PART || part > HIGHEST_PART;
        }

        boolean isPrimitive() {
            long common = commonOf(commonOf(a, b), commonOf(c, d));
            if (common != 2) {
                return common == 1;
            }
            // Halving even PARTS gives a NUMBER only where the halves are all odd.
            return (a & b & c & d & 2) == 0;
        }

        private static long commonOf(long x, long y) {
            long greater = Math.abs(x);
            long lesser = Math.abs(y);
            for (int step = 0; step < 100 && lesser != 0; step++) {
                long rest = greater % lesser;
                greater = lesser;
                lesser = rest;
            }
            return greater;
        }

        /** THE TURN, row i and column j. */
        long turnAt(int i, int j) {
            switch (3 * i + j) {
                case 0: return (a * a + b * b - c * c - d * d) / 4;
                case 1: return (b * c - a * d) / 2;
                case 2: return (b * d + a * c) / 2;
                case 3: return (b * c + a * d) / 2;
                case 4: return (a * a - b * b + c * c - d * d) / 4;
                case 5: return (c * d - a * b) / 2;
                case 6: return (b * d - a * c) / 2;
                case 7: return (c * d + a * b) / 2;
                case 8: return (a * a - b * b - c * c + d * d) / 4;
                default: return 0;
            }
        }
    }

    /** A row of places, each kept as a long that is cut to what the row's sort keeps. */
    private static final class Sheet {
        private final long[] places = new long[PLACES];
        private int size = 0;
        int kind = MISSING;

        boolean isMissing() {
            return kind == MISSING;
        }

        void renew(int sort, int n) {
            for (int i = 0; i < places.length; i++) {
                places[i] = 0;
            }
            kind = sort;
            size = Math.max(0, Math.min(n, places.length));
        }

        /** Subtracting, for i + n may go beyond an int. */
        boolean reaches(int i, int n) {
            return i >= 0 && n >= 0 && i <= size && n <= size - i;
        }

        long at(int i) {
            return i >= 0 && i < size ? places[i] : 0;
        }

        void keep(int i, long v) {
            if (i >= 0 && i < size) {
                places[i] = cut(v);
            }
        }

        private long cut(long v) {
            switch (kind) {
                case BYTES: return (byte) v;
                case INTS: return (int) v;
                default: return v;
            }
        }

        void keepFrom(int j, Sheet from, int i, int n) {
            if (from.reaches(i, n) && reaches(j, n)) {
                System.arraycopy(from.places, i, places, j, n);
            }
        }
    }

    /** Divides and finds THE DIVISOR; what it found stays until it is asked again. */
    private static final class Reckoner {
        // A REST has at most half the NORM of what divides: from 400000000 that is some thirty steps.
        private static final int STEPS = 100;

        final Quad quotient = new Quad();
        final Quad rest = new Quad();
        final Quad common = new Quad();
        private final Quad upper = new Quad();
        private final Quad lower = new Quad();
        private final Quad ratio = new Quad();
        private final Quad halves = new Quad();
        private final Quad rival = new Quad();

        /** x DIVIDED by y on that side; false if y is 0. */
        boolean splitBy(Quad x, Quad y, int side) {
            long norm = y.norm();
            if (norm == 0) {
                return false;
            }
            ratio.becomeMirror(y);
            ratio.becomeProductOn(side, x, ratio);
            quotient.becomeNearestWholes(ratio, norm);
            halves.becomeNearestHalves(ratio, norm);
            if (halves.offFrom(ratio, norm) < quotient.offFrom(ratio, norm)) {
                quotient.becomeLike(halves);
            }
            rest.becomeProductOn(side, quotient, y);
            rest.becomeDifference(x, rest);
            return true;
        }

        /** THE DIVISOR of x and y on that side. */
        void findCommon(Quad x, Quad y, int side) {
            upper.becomeLike(x);
            lower.becomeLike(y);
            for (int step = 0; step < STEPS && splitBy(upper, lower, side); step++) {
                upper.becomeLike(lower);
                lower.becomeLike(rest);
            }
            findGreatestLike(upper, side == RIGHT ? LEFT : RIGHT);
        }

        private void findGreatestLike(Quad x, int side) {
            common.becomeLike(x);
            for (int u = 0; u < UNITS; u++) {
                rival.becomeUnit(u);
                rival.becomeProductOn(side, x, rival);
                if (rival.isGreaterThan(common)) {
                    common.becomeLike(rival);
                }
            }
        }
    }

    /** The FACTORS of the latest WAY. */
    private static final class Way {
        private final Quad[] factors = new Quad[PRIMES];
        private final Quad prime = new Quad();
        private final Quad left = new Quad();
        private int count = 0;

        Way() {
            for (int k = 0; k < factors.length; k++) {
                factors[k] = new Quad();
            }
        }

        Quad at(int k) {
            return k >= 0 && k < count && k < factors.length ? factors[k] : null;
        }

        void follow(Quad number, Sheet row, int i, int n, Reckoner reckoner) {
            left.becomeLike(number);
            count = Math.max(0, Math.min(n, factors.length));
            for (int k = 0; k < count - 1; k++) {
                prime.become(2 * row.at(i + k), 0, 0, 0);
                reckoner.findCommon(prime, left, LEFT);
                factors[k].becomeLike(reckoner.common);
                reckoner.splitBy(left, factors[k], LEFT);
                left.becomeLike(reckoner.quotient);
            }
            if (count > 0) {
                factors[count - 1].becomeLike(left);
            }
        }
    }

    /** Counts and lists the NUMBERS of one NORM. */
    private static final class Norms {
        // No doubled PART of a NUMBER with a NORM up to 200 goes beyond it: 29 * 29 > 4 * 200.
        private static final int WIDEST = 28;
        // For m from 0: 0 if a square above 1 divides m, else 1 or -1 by how many primes do.
        private static final int[] SIGNS = {0, 1, -1, -1, 0, -1, 1, -1, 0, 0, 1, -1, 0, -1, 1};

        private final int[] pairs = new int[4 * HIGHEST_NORM + 1];

        /** Counting the pairs c, d by c c + d d lets a list be walked by a, b alone. */
        Norms() {
            for (int c = 0; c <= WIDEST; c++) {
                for (int d = 0; d <= WIDEST; d++) {
                    int sum = c * c + d * d;
                    if (sum < pairs.length) {
                        pairs[sum] += (c == 0 ? 1 : 2) * (d == 0 ? 1 : 2);
                    }
                }
            }
        }

        /** Hurwitz: 24 times the sum of the odd divisors. */
        static int countAll(int n) {
            int sum = 0;
            for (int m = 1; m <= n; m += 2) {
                if (n % m == 0) {
                    sum += m;
                }
            }
            return 24 * sum;
        }

        /** Jacobi: 8 times the sum of the divisors that 4 does not divide. */
        static int countWhole(int n) {
            int sum = 0;
            for (int m = 1; m <= n; m++) {
                if (n % m == 0 && m % 4 != 0) {
                    sum += m;
                }
            }
            return 8 * sum;
        }

        /** Takes out, by their signs, those that are m times a NUMBER. */
        static int countPrimitive(int n) {
            int count = 0;
            for (int m = 1; m < SIGNS.length; m++) {
                if (n % (m * m) == 0) {
                    count += SIGNS[m] * countAll(n / (m * m));
                }
            }
            return count;
        }

        /** The i-th NUMBER with the NORM n comes into found; false if there is none. */
        boolean find(int n, int i, Quad found) {
            int ahead = i;
            for (int a = WIDEST; a >= -WIDEST; a--) {
                // In steps of two: b is even or odd as a is, and then c and d can't but be so too.
                for (int b = WIDEST - (a & 1); b >= -WIDEST; b -= 2) {
                    int left = 4 * n - a * a - b * b;
                    int here = pairsWith(left);
                    if (ahead < here) {
                        return findPair(left, ahead, a, b, found);
                    }
                    ahead -= here;
                }
            }
            return false;
        }

        private int pairsWith(int sum) {
            return sum >= 0 && sum < pairs.length ? pairs[sum] : 0;
        }

        private static boolean findPair(int sum, int i, int a, int b, Quad found) {
            int ahead = i;
            for (int c = WIDEST; c >= -WIDEST; c--) {
                for (int d = WIDEST; d >= -WIDEST; d--) {
                    if (c * c + d * d == sum) {
                        if (ahead == 0) {
                            found.become(a, b, c, d);
                            return true;
                        }
                        ahead--;
                    }
                }
            }
            return false;
        }
    }
}

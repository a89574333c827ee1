import java.util.Map;
import java.util.Random;

/** All promises: runs of many calls, the same on the program and on the model, wrong inputs among them. */
public final class RunsTest {
    private static final int RUNS = 20000;
    // Looking at the whole object takes some 300 of the 512 calls that are promised.
    private static final int CALLS = 150;
    private static final int LONG_RUNS = 3000, ALL_CALLS = 512, MOST_AT_ONCE = 16;
    private static final int[] ODD_INTS = {
        Integer.MIN_VALUE, Integer.MIN_VALUE + 1, -20001, -101, -3, -2, -1, 3, 4, 5, 6, 12, 13, 15, 16, 17, 23, 24,
        101, 200, 201, 20001, Integer.MAX_VALUE - 3, Integer.MAX_VALUE
    };
    private static final int[] PRIMES = {2, 2, 3, 3, 5, 7, 11, 13, 17, 19, 23};

    private final Random random;
    private final Due due;
    private final FourParts program = new FourParts();
    private final Model model = new Model();
    private final int width;
    private final int registers;

    private RunsTest(long seed, Due due) {
        random = new Random(seed);
        this.due = due;
        int[] widths = {2, 4, 12, 40, 300, 5000, 20000};
        width = widths[random.nextInt(widths.length)];
        registers = 2 + random.nextInt(5);
    }

    public static void main(String[] args) {
        Due due = new Due();
        for (int seed = 0; seed < RUNS; seed++) {
            new RunsTest(seed, due).run("run " + seed + " ");
        }
        for (int seed = RUNS; seed < RUNS + LONG_RUNS; seed++) {
            new RunsTest(seed, due).runToTheLast("long run " + seed + " ");
        }
        due.end();
    }

    private void run(String name) {
        int end = due.asked() + 1 + random.nextInt(CALLS);
        while (due.asked() < end) {
            oneCall(name);
        }
        Map<String, String> seen = Edge.look(program);
        Map<String, String> expected = model.look();
        for (String key : expected.keySet()) {
            due.same(name + "at its end: " + key, seen.get(key), expected.get(key));
        }
    }

    /** All the calls that are promised; the last ones look at what has come of it. */
    private void runToTheLast(String name) {
        int end = due.asked() + ALL_CALLS;
        while (due.asked() + MOST_AT_ONCE + 4 * registers <= end) {
            oneCall(name);
        }
        for (int k = 0; due.asked() < end; k++) {
            part(name + "at its end, register " + k / 4 % registers + ", ", k / 4 % registers, k % 4);
        }
    }

    /** Now and then anything at all, mostly one of the numbers that are told. */
    private int among(int least, int most) {
        if (random.nextInt(40) == 0) {
            return random.nextBoolean() ? ODD_INTS[random.nextInt(ODD_INTS.length)] : random.nextInt();
        }
        return least + random.nextInt(most - least + 1);
    }

    private int register() {
        return among(0, registers - 1);
    }

    private int row() {
        return among(0, 2);
    }

    private int[] parts() {
        int[] q = new int[4];
        int odd = random.nextInt(2);
        for (int i = 0; i < 4; i++) {
            int half = random.nextInt(width + 1) - width / 2;
            q[i] = random.nextInt(60) == 0 ? among(-20000, 20000) : Math.min(20000, 2 * half + odd);
        }
        return q;
    }

    private long place() {
        switch (random.nextInt(4)) {
            case 0: return PRIMES[random.nextInt(PRIMES.length)];
            case 1: return random.nextBoolean() ? random.nextLong() : ODD_INTS[random.nextInt(ODD_INTS.length)];
            default: return 2 * (random.nextInt(width + 1) - width / 2);
        }
    }

    private void oneCall(String name) {
        int s = register();
        int t = register();
        int u = register();
        int r = row();
        int i = among(0, 5);
        int side = among(0, 1);
        switch (random.nextInt(20)) {
            case 0: sheet(name, r, among(-1, 2), among(0, 16)); break;
            case 1: case 2: put(name, r, among(0, 15), place()); break;
            case 3: copy(name, r, i, row(), among(0, 5), among(0, 8)); break;
            case 4: due.is(name + "read", program.read(s, r, i), model.read(s, r, i)); break;
            case 5: due.is(name + "write", program.write(s, r, i), model.write(s, r, i)); break;
            case 6: case 7: set(name, s, parts()); break;
            case 8: part(name, s, among(0, 6)); break;
            case 9: case 10: work(name, s, among(0, 3), t, u); break;
            case 11: unit(name, s, t, among(0, 23), side); break;
            case 12: divide(name, s, register(), t, u, side); break;
            case 13:
                due.is(name + "divisor", program.divisor(s, t, u, side), model.divisor(s, t, u, side));
                break;
            case 14: due.is(name + "like", program.like(s, t, side), model.like(s, t, side)); break;
            case 15: followWay(name, s, r, i); break;
            case 16: due.is(name + "factor", program.factor(s, i), model.factor(s, i)); break;
            case 17: norms(name, s, among(1, 200), among(0, 2)); break;
            case 18: due.is(name + "turn", program.turn(s, r, i % 4), model.turn(s, r, i % 4)); break;
            default: turned(name, s, r); break;
        }
    }

    private void sheet(String name, int r, int kind, int n) {
        due.is(name + "sheet", program.sheet(r, kind, n), model.sheet(r, kind, n));
    }

    private void put(String name, int r, int i, long v) {
        due.is(name + "put", program.put(r, i, v), model.put(r, i, v));
    }

    private void copy(String name, int r, int i, int t, int j, int n) {
        due.is(name + "copy", program.copy(r, i, t, j, n), model.copy(r, i, t, j, n));
    }

    private void set(String name, int s, int[] q) {
        due.is(name + "set", program.set(s, q[0], q[1], q[2], q[3]), model.set(s, q[0], q[1], q[2], q[3]));
    }

    private void part(String name, int s, int what) {
        due.is(name + "part " + what, program.part(s, what), model.part(s, what));
    }

    private void work(String name, int s, int how, int t, int u) {
        due.is(name + "work " + how, program.work(s, how, t, u), model.work(s, how, t, u));
    }

    private void unit(String name, int s, int t, int u, int side) {
        due.is(name + "unit", program.unit(s, t, u, side), model.unit(s, t, u, side));
    }

    private void divide(String name, int s, int r, int t, int u, int side) {
        due.is(name + "divide", program.divide(s, r, t, u, side), model.divide(s, r, t, u, side));
    }

    private void norms(String name, int s, int n, int what) {
        due.is(name + "many", program.many(n, what), model.many(n, what));
        int i = among(0, 24 * Math.max(1, Math.min(n, 200)));
        due.is(name + "listed", program.listed(s, n, i), model.listed(s, n, i));
    }

    private void turned(String name, int s, int i) {
        int x = among(-100, 100);
        int y = among(-100, 100);
        int z = among(-100, 100);
        due.is(name + "turned", program.turned(s, x, y, z, i), model.turned(s, x, y, z, i));
    }

    /** Puts the primes of the NORM on the sheet first, for by luck they never are there. */
    private void followWay(String name, int s, int r, int i) {
        int n = 0;
        if (s >= 0 && s < 16 && random.nextInt(8) != 0) {
            long left = Model.norm(model.registers[s]);
            for (long p = 2; left > 1 && n < 14; n++) {
                while (left % p != 0) {
                    p = p * p > left ? left : p + 1;
                }
                put(name, r, i + n, p);
                left /= p;
            }
        }
        int told = random.nextInt(10) == 0 ? among(0, 12) : n;
        due.is(name + "way", program.way(s, r, i, told), model.way(s, r, i, told));
    }
}

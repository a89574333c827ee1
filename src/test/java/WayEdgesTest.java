import java.util.ArrayList;
import java.util.List;

/** Promises 14 and 15, edge by edge: the last that is allowed, the first that is not, and what a refusal leaves. */
public final class WayEdgesTest {
    private static final int BAD = Edge.BAD, NO = Edge.NO, NULL = Edge.NULL, INDEX = Edge.INDEX, SIZE = Edge.SIZE;
    private static final int MIN = Edge.MIN, MAX = Edge.MAX;

    private static final Due due = new Due();
    /** Registers: 0 has the NORM 14, 13 that of 275; sheet 2: longs 2 7 5 5 11 3 3 3 3 3 3 3. */
    private static final Edge edge = new Edge(due);

    public static void main(String[] args) {
        wayNumbers();
        wayLengths();
        wayPlaces();
        wayOnEverySort();
        wayLastFactor();
        wayOfWhatIsNotPrimitive();
        wayAlongNoPrime();
        wayAlongAnotherProduct();
        wayAlongWhatWrapsAround();
        wayAlongTheHighest();
        wayOrder();
        refusedWayLeavesTheLatest();
        factorNumbers();
        factorPlaces();
        factorOfNoWay();
        factorJustHeld();
        factorOrder();
        due.end();
    }

    private static int[] q(int a, int b, int c, int d) {
        return new int[] {a, b, c, d};
    }

    /** The number in register 0, the places on sheet 3 as longs. */
    private static Edge with(int[] q, long... places) {
        return edge.after(x -> {
            due.is("set", x.set(0, q[0], q[1], q[2], q[3]), 0);
            Edge.fill(x, 3, 2, places);
        });
    }

    /** 1 + i + j by itself, twelve times: its NORM is 3 by itself, twelve times. */
    private static int[] twelvefold() {
        long[] q = {2, 0, 0, 0};
        for (int k = 0; k < 12; k++) {
            q = Model.product(q, new long[] {2, 2, 2, 0});
        }
        return q((int) q[0], (int) q[1], (int) q[2], (int) q[3]);
    }

    private static String factorsOf(int[] q, long... primes) {
        List<Long> all = new ArrayList<>();
        for (long p : primes) {
            all.add(p);
        }
        StringBuilder text = new StringBuilder();
        for (long[] f : Model.wayOf(new long[] {q[0], q[1], q[2], q[3]}, all)) {
            text.append(text.length() == 0 ? "" : ", ");
            text.append(f[0]).append(' ').append(f[1]).append(' ').append(f[2]).append(' ').append(f[3]);
        }
        return text.toString();
    }

    private static void isRefused(String name, int[] q, long... places) {
        with(q, places).refuses(name, x -> x.way(0, 3, 0, places.length), NO);
    }

    private static void isFollowed(String name, int[] q, long... places) {
        with(q, places).changes(name, x -> x.way(0, 3, 0, places.length), places.length,
            "way", factorsOf(q, places));
    }

    // ---- promise 14: way

    private static void wayNumbers() {
        String along = "2 2 0 0, 5 -1 1 -1";
        edge.changes("of 0", x -> x.way(0, 2, 0, 2), 2, "way", along);
        edge.after(x -> x.set(15, 6, 4, 2, 0)).changes("of 15", x -> x.way(15, 2, 0, 2), 2, "way", along);
        edge.after(x -> Edge.fill(x, 0, 0, 2, 7)).changes("on sheet 0", x -> x.way(0, 0, 0, 2), 2, "way", along);
        edge.after(x -> Edge.fill(x, 5, 1, 2, 7)).changes("on sheet 5", x -> x.way(0, 5, 0, 2), 2, "way", along);
        for (int s : Edge.NO_REGISTER) {
            edge.refuses("no register " + s, x -> x.way(s, 2, 0, 2), BAD);
        }
        for (int r : Edge.NO_SHEET) {
            edge.refuses("no sheet " + r, x -> x.way(0, r, 0, 2), BAD);
        }
        edge.refuses("MISSING", x -> x.way(0, 4, 0, 2), NULL);
    }

    /** "n primes (1 to 12)"; "SIZE: n below 0 (0, above 12: BAD)". */
    private static void wayLengths() {
        int[] three = q(2, 2, 2, 0);
        int[] power = twelvefold();
        isFollowed("along one", three, 3);
        isFollowed("along twelve", power, 3, 3, 3, 3, 3, 3, 3, 3, 3, 3, 3, 3);
        isRefused("along eleven of them", power, 3, 3, 3, 3, 3, 3, 3, 3, 3, 3, 3);
        Edge long13 = with(power, 3, 3, 3, 3, 3, 3, 3, 3, 3, 3, 3, 3, 3);
        long13.refuses("along 13", x -> x.way(0, 3, 0, 13), BAD);
        long13.changes("the last twelve of 13", x -> x.way(0, 3, 1, 12), 12,
            "way", factorsOf(power, 3, 3, 3, 3, 3, 3, 3, 3, 3, 3, 3, 3));
        for (int n : new int[] {0, 13, 14, 16, 17, MAX}) {
            edge.refuses("along " + n, x -> x.way(0, 2, 0, n), BAD);
        }
        edge.refuses("a UNIT along none", x -> x.way(1, 2, 0, 0), BAD);
        for (int n : new int[] {-1, -2, -12, MIN}) {
            edge.refuses("along " + n, x -> x.way(0, 2, 0, n), SIZE);
        }
    }

    private static void wayPlaces() {
        String along = "2 2 0 0, 5 -1 1 -1";
        Edge four = with(q(6, 4, 2, 0), 2, 7, 2, 7);
        four.changes("the first two of four", x -> x.way(0, 3, 0, 2), 2, "way", along);
        four.changes("the last two of four", x -> x.way(0, 3, 2, 2), 2, "way", along);
        for (int i : new int[] {-1, -2, 3, 4, 5, 16, MIN, MAX, MAX - 1, MAX - 2}) {
            four.refuses("two from " + i + " of four", x -> x.way(0, 3, i, 2), INDEX);
        }
        for (int n : new int[] {5, 6, 12}) {
            four.refuses(n + " of four", x -> x.way(0, 3, 0, n), INDEX);
        }
        for (int i : new int[] {-1, 4, MIN, MAX}) {
            four.refuses("one from " + i + " of four", x -> x.way(0, 3, i, 1), INDEX);
        }
        edge.refuses("one of no place", x -> x.way(0, 5, 0, 1), INDEX);
        edge.refuses("twelve of no place", x -> x.way(0, 5, 0, 12), INDEX);
        Edge full = with(q(6, 4, 2, 0), 0, 0, 0, 0, 0, 0, 0, 0, 0, 0, 0, 0, 0, 0, 2, 7);
        full.changes("from 14 of 16", x -> x.way(0, 3, 14, 2), 2, "way", along);
        full.refuses("from 15 of 16", x -> x.way(0, 3, 15, 2), INDEX);
        full.refuses("twelve from 5 of 16", x -> x.way(0, 3, 5, 12), INDEX);
        full.refuses("twelve from 4 of 16", x -> x.way(0, 3, 4, 12), NO);
    }

    private static void wayOnEverySort() {
        for (int kind = 0; kind <= 2; kind++) {
            int sort = kind;
            Edge row = edge.after(x -> Edge.fill(x, 3, sort, 2 + (1L << 32), 7 + (1L << 32)));
            if (kind == 2) {
                row.refuses("longs are not cut", x -> x.way(0, 3, 0, 2), NO);
            } else {
                row.changes("as it was cut", x -> x.way(0, 3, 0, 2), 2, "way", "2 2 0 0, 5 -1 1 -1");
            }
        }
        Edge byte127 = edge.after(x -> {
            x.set(0, 22, 4, 2, 2);
            Edge.fill(x, 3, 0, 127);
        });
        byte127.changes("the last prime that a byte keeps", x -> x.way(0, 3, 0, 1), 1, "way", "22 4 2 2");
        Edge byte131 = edge.after(x -> {
            x.set(0, 22, 6, 2, 0);
            Edge.fill(x, 3, 0, 131);
        });
        byte131.refuses("the first that it does not", x -> x.way(0, 3, 0, 1), NO);
    }

    /** "the last FACTOR is what is left": of one prime the number itself, of two not the greatest that is LIKE it. */
    private static void wayLastFactor() {
        with(q(-2, 0, 2, 2), 3).changes("along 3", x -> x.way(0, 3, 0, 1), 1, "way", "-2 0 2 2");
        with(q(-6, -4, -2, 0), 2, 7).changes("along 2, 7", x -> x.way(0, 3, 0, 2), 2, "way", "2 2 0 0, -5 1 -1 1");
        isFollowed("along 7, 2", q(-6, -4, -2, 0), 7, 2);
        isFollowed("one prime twice", q(33, 3, 1, 1), 5, 11, 5);
        isFollowed("one prime twice", q(33, 3, 1, 1), 11, 5, 5);
    }

    private static void wayOfWhatIsNotPrimitive() {
        isRefused("0", q(0, 0, 0, 0), 2);
        isRefused("0 along 0", q(0, 0, 0, 0), 0);
        isRefused("twice a UNIT of halves", q(2, 2, 2, 2), 2, 2);
        isRefused("twice 1", q(4, 0, 0, 0), 2, 2);
        isRefused("three times 1", q(6, 0, 0, 0), 3, 3);
        isRefused("three times a UNIT of halves", q(3, 3, 3, -3), 3, 3);
        isRefused("twice one of the NORM 3", q(6, 2, 2, 2), 2, 2, 3);
        isRefused("a great prime times 1", q(19946, 0, 0, 0), 9973, 9973);
        isFollowed("of the NORM 9 and PRIMITIVE", q(4, 4, 2, 0), 3, 3);
        isFollowed("of the NORM 9 and PRIMITIVE", q(5, 3, 1, 1), 3, 3);
    }

    private static void wayAlongNoPrime() {
        isRefused("14", q(6, 4, 2, 0), 14);
        isRefused("1", q(6, 4, 2, 0), 1, 2, 7);
        isRefused("1 behind", q(6, 4, 2, 0), 2, 7, 1);
        isRefused("1 for a UNIT", q(1, 1, 1, 1), 1);
        isRefused("0", q(6, 4, 2, 0), 0, 7);
        isRefused("0 behind", q(6, 4, 2, 0), 2, 7, 0);
        isRefused("-1 twice", q(6, 4, 2, 0), -1, -1, 2, 7);
        isRefused("-2 and -7", q(6, 4, 2, 0), -2, -7);
        isRefused("-14 and -1", q(6, 4, 2, 0), -14, -1);
        isRefused("9", q(4, 4, 2, 0), 9);
        isRefused("25", q(8, 6, 0, 0), 25);
        isRefused("15", q(6, 4, 2, 2), 15);
        isRefused("35 and 2", q(14, 8, 4, 2), 35, 2);
        isFollowed("5, 7 and 2", q(14, 8, 4, 2), 5, 7, 2);
        isRefused("341, which 2 takes for a prime", q(36, 8, 2, 0), 341);
        isFollowed("11 and 31", q(36, 8, 2, 0), 11, 31);
        isRefused("561, which all take for a prime", q(46, 8, 8, 0), 561);
        isFollowed("3, 11 and 17", q(46, 8, 8, 0), 17, 3, 11);
        isFollowed("2", q(2, 2, 0, 0), 2);
        isFollowed("3", q(3, 1, 1, 1), 3);
        isFollowed("5", q(4, 2, 0, 0), 5);
        isFollowed("7", q(5, 1, 1, 1), 7);
    }

    private static void wayAlongAnotherProduct() {
        isRefused("too little", q(6, 4, 2, 0), 2);
        isRefused("too little", q(6, 4, 2, 0), 7);
        isRefused("too much", q(6, 4, 2, 0), 2, 7, 2);
        isRefused("too much", q(6, 4, 2, 0), 2, 7, 3);
        isRefused("one too little", q(8, 2, 2, 0), 17);
        isRefused("one too much", q(8, 2, 2, 0), 19);
        isRefused("other primes", q(6, 4, 2, 0), 3, 5);
        isRefused("the wrong one twice", q(33, 3, 1, 1), 5, 11, 11);
        isRefused("a UNIT along 2", q(2, 0, 0, 0), 2);
    }

    /** Products that are the NORM 3 but for what an int, a long loses. */
    private static void wayAlongWhatWrapsAround() {
        isRefused("beyond an int", q(3, 1, 1, 1), 7, 613566757);
        isRefused("beyond an int", q(3, 1, 1, 1), 613566757, 7);
        isRefused("beyond a long", q(3, 1, 1, 1), 607, 4983963802452004061L);
        isRefused("beyond a long", q(3, 1, 1, 1), 4983963802452004061L, 607);
        isRefused("the greatest long", q(3, 1, 1, 1), Long.MAX_VALUE);
        isRefused("the least long", q(3, 1, 1, 1), Long.MIN_VALUE);
        isRefused("the least long and 3", q(3, 1, 1, 1), 3, Long.MIN_VALUE);
        isRefused("beyond an int by itself", q(3, 1, 1, 1), (1L << 32) + 3);
        edge.after(x -> {
            x.set(0, 3, 1, 1, 1);
            Edge.fill(x, 3, 1, 7, 613566757);
        }).refuses("beyond an int, of ints", x -> x.way(0, 3, 0, 2), NO);
    }

    private static void wayAlongTheHighest() {
        isFollowed("a prime", q(20000, 19998, 19998, 19998), 399940003);
        isRefused("beside it", q(20000, 19998, 19998, 19998), 399940001);
        isRefused("the square of a prime", q(19993, 19993, 19925, 19651), 19891L * 19891);
        isFollowed("that prime twice", q(19993, 19993, 19925, 19651), 19891, 19891);
        isRefused("the product of two", q(19831, 19833, 19609, 19971), 19661L * 19963);
        isFollowed("these two", q(19831, 19833, 19609, 19971), 19661, 19963);
        isFollowed("these two", q(19831, 19833, 19609, 19971), 19963, 19661);
    }

    private static void wayOrder() {
        for (int s : Edge.NO_REGISTER) {
            edge.refuses("s ahead of NULL", x -> x.way(s, 4, 0, 2), BAD);
            edge.refuses("s ahead of SIZE", x -> x.way(s, 2, 0, -1), BAD);
            edge.refuses("s ahead of INDEX", x -> x.way(s, 2, -1, 2), BAD);
            edge.refuses("s ahead of NO", x -> x.way(s, 2, 0, 3), BAD);
        }
        for (int r : Edge.NO_SHEET) {
            edge.refuses("r ahead of SIZE", x -> x.way(0, r, 0, -1), BAD);
            edge.refuses("r ahead of INDEX", x -> x.way(0, r, -1, 2), BAD);
            edge.refuses("r ahead of NO", x -> x.way(2, r, 0, 2), BAD);
        }
        for (int n : new int[] {0, 13, MAX}) {
            edge.refuses("n ahead of NULL", x -> x.way(0, 4, 0, n), BAD);
            edge.refuses("n ahead of INDEX", x -> x.way(0, 2, -1, n), BAD);
            edge.refuses("n ahead of INDEX", x -> x.way(0, 3, 0, n), BAD);
            edge.refuses("n ahead of NO", x -> x.way(2, 2, 0, n), BAD);
        }
        edge.refuses("NULL ahead of SIZE", x -> x.way(0, 4, 0, -1), NULL);
        edge.refuses("NULL ahead of SIZE", x -> x.way(0, 4, 0, MIN), NULL);
        edge.refuses("NULL ahead of INDEX", x -> x.way(0, 4, -1, 2), NULL);
        edge.refuses("NULL ahead of INDEX", x -> x.way(0, 4, 16, 12), NULL);
        edge.refuses("NULL ahead of NO", x -> x.way(2, 4, 0, 2), NULL);
        edge.refuses("SIZE ahead of INDEX", x -> x.way(0, 2, -1, -1), SIZE);
        edge.refuses("SIZE ahead of INDEX", x -> x.way(0, 2, MAX, MIN), SIZE);
        edge.refuses("SIZE ahead of NO", x -> x.way(2, 2, 0, -1), SIZE);
        edge.refuses("INDEX ahead of NO, not PRIMITIVE", x -> x.way(2, 2, 11, 2), INDEX);
        edge.refuses("INDEX ahead of NO, no primes", x -> x.way(0, 0, 7, 2), INDEX);
        edge.refuses("INDEX ahead of NO, another product", x -> x.way(0, 2, -1, 2), INDEX);
    }

    /** "nothing changes then": a WAY of before stays, its last FACTORS too; without one there is none. */
    private static void refusedWayLeavesTheLatest() {
        Edge followed = edge.after(x -> x.way(0, 2, 0, 2));
        followed.refuses("BAD", x -> x.way(16, 2, 0, 2), BAD);
        followed.refuses("NULL", x -> x.way(0, 4, 0, 2), NULL);
        followed.refuses("SIZE", x -> x.way(0, 2, 0, -1), SIZE);
        followed.refuses("INDEX", x -> x.way(0, 2, 11, 2), INDEX);
        followed.refuses("NO", x -> x.way(0, 2, 0, 3), NO);
        followed.refuses("NO, of 0", x -> x.way(2, 2, 0, 1), NO);
        followed.changes("a longer one", x -> x.way(13, 2, 2, 3), 3, "way", factorsOf(q(33, 3, 1, 1), 5, 5, 11));
        followed.changes("a shorter one", x -> x.way(5, 2, 5, 1), 1, "way", "3 1 1 1");
        followed.changes("the number changes later", x -> x.set(0, 2, 0, 0, 0), 0, "register 0", "2 0 0 0");
        followed.changes("the places change later", x -> x.put(2, 0, 9), 0,
            "sheet 2", "longs 9 7 5 5 11 3 3 3 3 3 3 3");
        followed.changes("the sheet is MISSING later", x -> x.sheet(2, -1, 0), 0, "sheet 2", "MISSING");
        FourParts fresh = new FourParts();
        Edge.fill(fresh, 0, 2, 3, 5);
        due.is("set", fresh.set(0, 6, 4, 2, 0), 0);
        due.is("NO at first", fresh.way(0, 0, 0, 2), NO);
        due.is("INDEX at first", fresh.way(0, 0, 1, 2), INDEX);
        due.same("still no WAY", Edge.look(fresh).get("way"), "");
    }

    // ---- promise 15: factor

    private static void factorNumbers() {
        Edge two = edge.after(x -> x.way(0, 2, 0, 2));
        two.changes("into 0", x -> x.factor(0, 0), 2, "register 0", "2 2 0 0");
        two.changes("into 15", x -> x.factor(15, 1), 7, "register 15", "5 -1 1 -1");
        two.changes("again and again", x -> x.factor(1, 1) + x.factor(1, 0) + x.factor(1, 1), 16,
            "register 1", "5 -1 1 -1");
        for (int s : Edge.NO_REGISTER) {
            two.refuses("no register " + s, x -> x.factor(s, 0), BAD);
            two.refuses("no register " + s, x -> x.factor(s, 1), BAD);
        }
    }

    private static void factorPlaces() {
        Edge two = edge.after(x -> x.way(0, 2, 0, 2));
        for (int k : new int[] {-1, 2, 3, 11, 12, MIN, MAX}) {
            two.refuses("no FACTOR " + k + " of two", x -> x.factor(1, k), NO);
        }
        Edge one = edge.after(x -> x.way(5, 2, 5, 1));
        one.changes("FACTOR 0 of one", x -> x.factor(1, 0), 3, "register 1", "3 1 1 1");
        for (int k : new int[] {-1, 1, 2}) {
            one.refuses("no FACTOR " + k + " of one", x -> x.factor(1, k), NO);
        }
        edge.refuses("no FACTOR 3 of three", x -> x.factor(1, 3), NO);
        int[] power = twelvefold();
        long[] threes = {3, 3, 3, 3, 3, 3, 3, 3, 3, 3, 3, 3};
        String[] all = factorsOf(power, threes).split(", ");
        Edge twelve = with(power, threes).after(x -> x.way(0, 3, 0, 12));
        twelve.changes("FACTOR 11 of twelve", x -> x.factor(1, 11), 3, "register 1", all[11]);
        twelve.refuses("no FACTOR 12 of twelve", x -> x.factor(1, 12), NO);
    }

    private static void factorOfNoWay() {
        for (int k : new int[] {-1, 0, 1, 11, 12, MIN, MAX}) {
            FourParts x = new FourParts();
            x.set(3, 2, 4, 6, 8);
            due.is("no WAY, FACTOR " + k, x.factor(3, k), NO);
            due.is("no WAY, register 16", x.factor(16, k), BAD);
            due.parts("nothing changed", x, 3, 2, 4, 6, 8);
        }
    }

    /** No FACTOR goes beyond 20000 (README): this one has a PART that just does not. */
    private static void factorJustHeld() {
        int[] q = q(20000, 19990, 19982, 20000);
        String[] all = factorsOf(q, 199860053, 2).split(", ");
        Edge great = with(q, 199860053, 2).after(x -> x.way(0, 3, 0, 2));
        due.holds("it begins with 20000", all[0].startsWith("20000 "));
        great.changes("just held", x -> x.factor(1, 0), 199860053, "register 1", all[0]);
        with(q(20000, 19998, 19998, 19998), 399940003).after(x -> x.way(0, 3, 0, 1)).changes("just held",
            x -> x.factor(1, 0), 399940003, "register 1", "20000 19998 19998 19998");
    }

    private static void factorOrder() {
        for (int s : Edge.NO_REGISTER) {
            edge.refuses("BAD ahead of NO", x -> x.factor(s, 3), BAD);
            edge.refuses("BAD ahead of NO", x -> x.factor(s, -1), BAD);
        }
    }
}

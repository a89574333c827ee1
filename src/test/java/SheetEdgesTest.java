import java.util.Map;

/** Promises 1 to 6, edge by edge: the last that is allowed, the first that is not, and what a refusal leaves. */
public final class SheetEdgesTest {
    private static final int BAD = Edge.BAD, NULL = Edge.NULL, INDEX = Edge.INDEX, SIZE = Edge.SIZE;
    private static final int STORE = Edge.STORE, HALF = Edge.HALF, HIGH_ON_SHEET = Edge.HIGH_ON_SHEET;
    private static final int MIN = Edge.MIN, MAX = Edge.MAX;
    private static final String ZEROS_16 = " 0 0 0 0 0 0 0 0 0 0 0 0 0 0 0 0";

    private static final Due due = new Due();
    private static final Edge edge = new Edge(due);

    public static void main(String[] args) {
        allAtFirst();
        theLastCallThatIsPromised();
        sheetNumbers();
        sheetKinds();
        sheetLengths();
        sheetMissing();
        sheetOrder();
        putNumbers();
        putPlaces();
        putOrder();
        putCutsToBytes();
        putCutsToInts();
        putKeepsLongs();
        copyNumbers();
        copyMissing();
        copySorts();
        copyPlaces();
        copyAsItWasAheadOfAll();
        copyOrder();
        readNumbers();
        readPlaces();
        readHalf();
        readHigh();
        readOrder();
        writeNumbers();
        writePlaces();
        writeCuts();
        writeOrder();
        due.end();
    }

    // ---- promise 1

    /** "All REGISTERS 0, all SHEETS MISSING; no WAY." */
    private static void allAtFirst() {
        Map<String, String> seen = Edge.look(new FourParts());
        due.is("what is looked at", seen.size(), 16 + 6 + 1);
        for (int s = 0; s < 16; s++) {
            due.same("register " + s, seen.get("register " + s), "0 0 0 0");
        }
        for (int r = 0; r < 6; r++) {
            due.same("sheet " + r, seen.get("sheet " + r), "MISSING");
        }
        due.same("way", seen.get("way"), "");
    }

    /** "An object is used for at most 512 calls": the 512th is answered as the first was. */
    private static void theLastCallThatIsPromised() {
        FourParts x = new FourParts();
        for (int i = 0; i < 127; i++) {
            due.is("sheet", x.sheet(i % 6, i % 3, 16), 0);
            due.is("put", x.put(i % 6, 15, 7), 0);
            due.is("listed", x.listed(i % 16, 7, i), 1);
            due.is("way", x.way(i % 16, i % 6, 15, 1), 1);
        }
        due.is("call 509", x.set(0, 6, 4, 2, 0), 0);
        due.is("call 510", x.divisor(1, 0, 0, 0), 14);
        due.is("call 511", x.factor(2, 0), 7);
        due.is("call 512", x.part(0, 4), 14);
    }

    // ---- promise 2: sheet

    private static void sheetNumbers() {
        edge.changes("sheet 0", x -> x.sheet(0, 1, 2), 0, "sheet 0", "ints 0 0");
        edge.changes("sheet 5", x -> x.sheet(5, 1, 2), 0, "sheet 5", "ints 0 0");
        for (int r : Edge.NO_SHEET) {
            edge.refuses("no sheet " + r, x -> x.sheet(r, 1, 2), BAD);
            edge.refuses("no sheet " + r + " to be MISSING", x -> x.sheet(r, -1, 2), BAD);
        }
    }

    private static void sheetKinds() {
        edge.changes("kind -1", x -> x.sheet(3, -1, 2), 0, "sheet 3", "MISSING");
        edge.changes("kind 0", x -> x.sheet(3, 0, 2), 0, "sheet 3", "bytes 0 0");
        edge.changes("kind 1", x -> x.sheet(3, 1, 2), 0, "sheet 3", "ints 0 0");
        edge.changes("kind 2", x -> x.sheet(3, 2, 2), 0, "sheet 3", "longs 0 0");
        for (int kind : new int[] {-2, 3, MIN, MAX}) {
            edge.refuses("no kind " + kind, x -> x.sheet(3, kind, 2), BAD);
        }
    }

    /** "a row of n places, all 0", of 0 to 16; "BAD: also n above 16; SIZE". */
    private static void sheetLengths() {
        String[] sorts = {"bytes", "ints", "longs"};
        for (int kind = 0; kind <= 2; kind++) {
            int sort = kind;
            edge.changes("no place", x -> x.sheet(3, sort, 0), 0, "sheet 3", sorts[kind]);
            edge.changes("one place", x -> x.sheet(3, sort, 1), 0, "sheet 3", sorts[kind] + " 0");
            edge.changes("15 places", x -> x.sheet(3, sort, 15), 0, "sheet 3", sorts[kind] + ZEROS_16.substring(2));
            edge.changes("16 places", x -> x.sheet(3, sort, 16), 0, "sheet 3", sorts[kind] + ZEROS_16);
            edge.refuses("17 places", x -> x.sheet(3, sort, 17), BAD);
            edge.refuses("the most places", x -> x.sheet(3, sort, MAX), BAD);
            edge.refuses("-1 places", x -> x.sheet(3, sort, -1), SIZE);
            edge.refuses("the fewest places", x -> x.sheet(3, sort, MIN), SIZE);
        }
        edge.changes("the same again, all 0", x -> x.sheet(0, 0, 8), 0, "sheet 0", "bytes 0 0 0 0 0 0 0 0");
        edge.changes("shorter and longer again", x -> x.sheet(0, 0, 1) + x.sheet(0, 0, 5), 0,
            "sheet 0", "bytes 0 0 0 0 0");
        edge.changes("MISSING and back", x -> x.sheet(0, -1, 8) + x.sheet(0, 0, 8), 0,
            "sheet 0", "bytes 0 0 0 0 0 0 0 0");
    }

    /** "or MISSING (-1; n counts for nothing)". */
    private static void sheetMissing() {
        for (int n : new int[] {-1, 0, 16, 17, MIN, MAX}) {
            edge.changes("MISSING, n " + n, x -> x.sheet(1, -1, n), 0, "sheet 1", "MISSING");
            edge.refuses("MISSING as it was, n " + n, x -> x.sheet(4, -1, n), 0);
        }
    }

    private static void sheetOrder() {
        for (int r : Edge.NO_SHEET) {
            edge.refuses("BAD ahead of SIZE, sheet " + r, x -> x.sheet(r, 1, -1), BAD);
        }
        for (int kind : new int[] {-2, 3, MIN, MAX}) {
            edge.refuses("BAD ahead of SIZE, kind " + kind, x -> x.sheet(3, kind, -1), BAD);
            edge.refuses("BAD ahead of SIZE, kind " + kind, x -> x.sheet(3, kind, MIN), BAD);
        }
    }

    // ---- promise 3: put

    private static void putNumbers() {
        edge.changes("sheet 0", x -> x.put(0, 0, 9), 0, "sheet 0", "bytes 9 4 6 8 -1 -3 -5 -7");
        edge.changes("sheet 5", x -> x.sheet(5, 0, 1) + x.put(5, 0, 9), 0, "sheet 5", "bytes 9");
        for (int r : Edge.NO_SHEET) {
            edge.refuses("no sheet " + r, x -> x.put(r, 0, 9), BAD);
        }
        edge.refuses("MISSING", x -> x.put(4, 0, 9), NULL);
        edge.after(x -> x.sheet(3, -1, 0)).refuses("MISSING again", x -> x.put(3, 0, 9), NULL);
    }

    private static void putPlaces() {
        edge.changes("the first place", x -> x.put(3, 0, 9), 0, "sheet 3", "ints 9 3 5 7");
        edge.changes("the last place", x -> x.put(3, 3, 9), 0, "sheet 3", "ints 1 3 5 9");
        for (int i : new int[] {-1, 4, 15, 16, MIN, MAX}) {
            edge.refuses("place " + i + " of four", x -> x.put(3, i, 9), INDEX);
        }
        for (int i : new int[] {-1, 0, 1, MIN, MAX}) {
            edge.refuses("place " + i + " of none", x -> x.put(5, i, 9), INDEX);
        }
        for (int kind = 0; kind <= 2; kind++) {
            int sort = kind;
            Edge full = edge.after(x -> x.sheet(3, sort, 16));
            String zeros = new String[] {"bytes", "ints", "longs"}[kind] + ZEROS_16;
            full.changes("place 15 of 16", x -> x.put(3, 15, 9), 0,
                "sheet 3", zeros.substring(0, zeros.length() - 1) + "9");
            full.refuses("place 16 of 16", x -> x.put(3, 16, 9), INDEX);
            full.refuses("place -1 of 16", x -> x.put(3, -1, 9), INDEX);
        }
    }

    private static void putOrder() {
        for (int r : Edge.NO_SHEET) {
            edge.refuses("BAD ahead of INDEX", x -> x.put(r, -1, 9), BAD);
            edge.refuses("BAD ahead of INDEX", x -> x.put(r, 16, 9), BAD);
        }
        for (int i : new int[] {-1, 16, MIN, MAX}) {
            edge.refuses("NULL ahead of INDEX", x -> x.put(4, i, 9), NULL);
        }
    }

    /** "cut to what it keeps": a byte from -128 to 127. */
    private static void putCutsToBytes() {
        long[][] cut = {{127, 127}, {128, -128}, {129, -127}, {-128, -128}, {-129, 127}, {-130, 126}, {255, -1},
            {256, 0}, {-256, 0}, {-257, -1}, {32767, -1}, {32768, 0}, {20001, 33}, {-20001, -33}, {65536 + 5, 5},
            {2147483647L, -1}, {2147483648L, 0}, {-2147483649L, -1}, {(1L << 32) + 77, 77},
            {Long.MAX_VALUE, -1}, {Long.MIN_VALUE, 0}, {Long.MIN_VALUE + 100, 100}};
        for (long[] pair : cut) {
            edge.changes("the byte of " + pair[0], x -> x.put(0, 1, pair[0]), 0,
                "sheet 0", "bytes 2 " + pair[1] + " 6 8 -1 -3 -5 -7");
        }
    }

    /** An int from -2147483648 to 2147483647; of what goes beyond 20000 its being even or odd tells the sides apart. */
    private static void putCutsToInts() {
        Object[][] cut = {{127L, "127"}, {128L, "128"}, {-129L, "-129"}, {255L, "255"}, {256L, "256"},
            {20000L, "20000"}, {-20000L, "-20000"}, {32768L, "even-and-high"}, {65536L, "even-and-high"},
            {2147483647L, "odd-and-high"}, {2147483648L, "even-and-high"}, {2147483649L, "odd-and-high"},
            {-2147483648L, "even-and-high"}, {-2147483649L, "odd-and-high"}, {4294967295L, "-1"},
            {4294967296L, "0"}, {4294967297L, "1"}, {-4294967296L, "0"}, {-4294967297L, "-1"},
            {4294967296L + 20000, "20000"}, {4294967296L - 20000, "-20000"}, {4294967296L + 20001, "odd-and-high"},
            {Long.MAX_VALUE, "-1"}, {Long.MIN_VALUE, "0"}, {Long.MIN_VALUE + 300, "300"}};
        for (Object[] pair : cut) {
            edge.changes("the int of " + pair[0], x -> x.put(3, 1, (Long) pair[0]), 0,
                "sheet 3", "ints 1 " + pair[1] + " 5 7");
        }
    }

    /** A long keeps all: what an int or a byte would cut to a few stays beyond 20000. */
    private static void putKeepsLongs() {
        Object[][] kept = {{128L, "128"}, {-129L, "-129"}, {256L, "256"}, {20000L, "20000"}, {-20000L, "-20000"},
            {20001L, "odd-and-high"}, {-20001L, "odd-and-high"}, {2147483648L, "even-and-high"},
            {4294967295L, "odd-and-high"}, {4294967296L, "even-and-high"}, {-4294967297L, "odd-and-high"},
            {4294967296L + 77, "odd-and-high"}, {1L << 62, "even-and-high"}, {Long.MAX_VALUE, "odd-and-high"},
            {Long.MIN_VALUE, "even-and-high"}, {Long.MIN_VALUE + 1, "odd-and-high"}};
        for (Object[] pair : kept) {
            edge.after(x -> x.sheet(3, 2, 2)).changes("the long " + pair[0], x -> x.put(3, 1, (Long) pair[0]), 0,
                "sheet 3", "longs 0 " + pair[1]);
        }
    }

    // ---- promise 4: copy

    private static void copyNumbers() {
        Edge ends = edge.after(x -> Edge.fill(x, 5, 0, 40, 50));
        ends.changes("from 0 to 5", x -> x.copy(0, 6, 5, 0, 2), 0, "sheet 5", "bytes -5 -7");
        ends.changes("from 5 to 0", x -> x.copy(5, 0, 0, 6, 2), 0, "sheet 0", "bytes 2 4 6 8 -1 -3 40 50");
        for (int wrong : Edge.NO_SHEET) {
            edge.refuses("from no sheet " + wrong, x -> x.copy(wrong, 0, 0, 0, 1), BAD);
            edge.refuses("to no sheet " + wrong, x -> x.copy(0, 0, wrong, 0, 1), BAD);
            edge.refuses("both " + wrong, x -> x.copy(wrong, 0, wrong, 0, 1), BAD);
        }
    }

    /** "NULL (of either)". */
    private static void copyMissing() {
        for (int n = 0; n <= 1; n++) {
            int places = n;
            edge.refuses("from a MISSING one", x -> x.copy(4, 0, 0, 0, places), NULL);
            edge.refuses("to a MISSING one", x -> x.copy(0, 0, 4, 0, places), NULL);
            edge.refuses("from it to itself", x -> x.copy(4, 0, 4, 0, places), NULL);
            edge.after(x -> x.sheet(1, -1, 0)).refuses("both MISSING", x -> x.copy(4, 0, 1, 0, places), NULL);
        }
    }

    private static void copySorts() {
        for (int r = 0; r <= 2; r++) {
            for (int t = 0; t <= 2; t++) {
                int from = r;
                int to = t;
                for (int n : new int[] {0, 1, 4}) {
                    if (r != t) {
                        edge.refuses("from sort " + r + " to sort " + t, x -> x.copy(from, 0, to, 0, n), STORE);
                    } else {
                        edge.refuses("each to its own place", x -> x.copy(from, 1, to, 1, n), 0);
                    }
                }
            }
        }
        edge.changes("ints", x -> x.copy(1, 2, 3, 1, 2), 0, "sheet 3", "ints 1 18 -16 7");
        edge.after(x -> Edge.fill(x, 3, 2, 1, (1L << 32) + 1)).changes("longs are not cut",
            x -> x.copy(3, 0, 2, 0, 2), 0, "sheet 2", "longs 1 odd-and-high 5 5 11 3 3 3 3 3 3 3");
    }

    /** "INDEX: one of n, i, j is below 0, or they go beyond a SHEET": sheet 1 has six places, sheet 3 has four. */
    private static void copyPlaces() {
        edge.changes("all of four", x -> x.copy(1, 0, 3, 0, 4), 0, "sheet 3", "ints 20000 -20000 18 -16");
        edge.changes("the last four of six", x -> x.copy(1, 2, 3, 0, 4), 0, "sheet 3", "ints 18 -16 even-and-high 2");
        edge.changes("the last of both", x -> x.copy(1, 5, 3, 3, 1), 0, "sheet 3", "ints 1 3 5 2");
        edge.changes("the other way round", x -> x.copy(3, 0, 1, 2, 4), 0, "sheet 1", "ints 20000 -20000 1 3 5 7");
        edge.refuses("none", x -> x.copy(1, 0, 3, 0, 0), 0);
        edge.refuses("none, at the ends", x -> x.copy(1, 6, 3, 4, 0), 0);
        edge.refuses("none, of no place", x -> x.copy(5, 0, 0, 8, 0), 0);
        int[][] beyond = {
            {0, 0, -1}, {0, 0, MIN}, {6, 4, -1}, {-1, 0, 1}, {-1, 0, 0}, {MIN, 0, 1}, {MIN, 0, 0},
            {0, -1, 1}, {0, -1, 0}, {0, MIN, 1}, {0, MIN, 0}, {-1, -1, -1}, {MIN, MIN, MIN},
            {3, 0, 4}, {6, 0, 1}, {7, 0, 0}, {MAX, 0, 1}, {MAX, 0, 0}, {MAX, 0, 4},
            {0, 1, 4}, {0, 4, 1}, {0, 5, 0}, {0, MAX, 1}, {0, MAX, 0}, {0, MAX, 4},
            {0, 0, 5}, {0, 0, 6}, {0, 0, 7}, {0, 0, MAX}, {1, 1, MAX}, {MAX, MAX, MAX}, {MAX, 0, MIN}, {0, MAX, MIN}
        };
        for (int[] how : beyond) {
            edge.refuses("from " + how[0] + " to " + how[1] + ", " + how[2] + " places",
                x -> x.copy(1, how[0], 3, how[1], how[2]), INDEX);
        }
        edge.refuses("beyond where they come from alone", x -> x.copy(3, 1, 1, 0, 4), INDEX);
        edge.refuses("beyond where they come from alone", x -> x.copy(3, 0, 1, 0, 5), INDEX);
        edge.refuses("one of no place", x -> x.copy(5, 0, 0, 0, 1), INDEX);
        edge.refuses("one to no place", x -> x.copy(0, 0, 5, 0, 1), INDEX);
        Edge full = edge.after(x -> {
            Edge.fill(x, 3, 2, 1, 2, 3, 4, 5, 6, 7, 8, 9, 10, 11, 12, 13, 14, 15, 16);
            x.sheet(5, 2, 16);
        });
        full.changes("all of 16", x -> x.copy(3, 0, 5, 0, 16), 0,
            "sheet 5", "longs 1 2 3 4 5 6 7 8 9 10 11 12 13 14 15 16");
        full.refuses("17 of 16", x -> x.copy(3, 0, 5, 0, 17), INDEX);
        full.refuses("16 of 16 from 1 on", x -> x.copy(3, 1, 5, 0, 16), INDEX);
        full.refuses("16 of 16 to 1 on", x -> x.copy(3, 0, 5, 1, 16), INDEX);
    }

    /** "each as it was ahead of all". */
    private static void copyAsItWasAheadOfAll() {
        edge.changes("one up", x -> x.copy(0, 0, 0, 1, 7), 0, "sheet 0", "bytes 2 2 4 6 8 -1 -3 -5");
        edge.changes("one down", x -> x.copy(0, 1, 0, 0, 7), 0, "sheet 0", "bytes 4 6 8 -1 -3 -5 -7 -7");
        edge.changes("two up", x -> x.copy(1, 0, 1, 2, 4), 0, "sheet 1", "ints 20000 -20000 20000 -20000 18 -16");
        edge.changes("two down", x -> x.copy(1, 2, 1, 0, 4), 0,
            "sheet 1", "ints 18 -16 even-and-high 2 even-and-high 2");
        edge.changes("longs up", x -> x.copy(2, 0, 2, 1, 4), 0, "sheet 2", "longs 2 2 7 5 5 3 3 3 3 3 3 3");
        edge.changes("longs down", x -> x.copy(2, 1, 2, 0, 4), 0, "sheet 2", "longs 7 5 5 11 11 3 3 3 3 3 3 3");
        edge.refuses("one too many up", x -> x.copy(0, 0, 0, 1, 8), INDEX);
        edge.refuses("one too many down", x -> x.copy(0, 1, 0, 0, 8), INDEX);
    }

    private static void copyOrder() {
        for (int wrong : Edge.NO_SHEET) {
            edge.refuses("BAD ahead of NULL", x -> x.copy(4, 0, wrong, 0, 1), BAD);
            edge.refuses("BAD ahead of NULL", x -> x.copy(wrong, 0, 4, 0, 1), BAD);
            edge.refuses("BAD ahead of INDEX", x -> x.copy(0, 0, wrong, 0, -1), BAD);
            edge.refuses("BAD ahead of INDEX", x -> x.copy(wrong, -1, 0, -1, 1), BAD);
        }
        int[][] beyond = {{-1, 0, 1}, {0, -1, 1}, {0, 0, -1}, {9, 0, 1}, {0, 9, 1}, {0, 0, 9}};
        for (int[] how : beyond) {
            edge.refuses("NULL ahead of INDEX", x -> x.copy(4, how[0], 0, how[1], how[2]), NULL);
            edge.refuses("NULL ahead of INDEX", x -> x.copy(0, how[0], 4, how[1], how[2]), NULL);
            edge.refuses("STORE ahead of INDEX", x -> x.copy(0, how[0], 1, how[1], how[2]), STORE);
            edge.refuses("STORE ahead of INDEX", x -> x.copy(3, how[0], 2, how[1], how[2]), STORE);
        }
    }

    // ---- promise 5: read

    private static void readNumbers() {
        edge.changes("register 0", x -> x.read(0, 3, 0), 0, "register 0", "1 3 5 7");
        edge.changes("register 15", x -> x.read(15, 3, 0), 0, "register 15", "1 3 5 7");
        edge.changes("sheet 0", x -> x.read(3, 0, 4), 0, "register 3", "-1 -3 -5 -7");
        edge.after(x -> Edge.fill(x, 5, 2, 8, 8, 8, 6)).changes("sheet 5",
            x -> x.read(3, 5, 0), 0, "register 3", "8 8 8 6");
        for (int s : Edge.NO_REGISTER) {
            edge.refuses("no register " + s, x -> x.read(s, 3, 0), BAD);
        }
        for (int r : Edge.NO_SHEET) {
            edge.refuses("no sheet " + r, x -> x.read(0, r, 0), BAD);
        }
        edge.refuses("MISSING", x -> x.read(0, 4, 0), NULL);
    }

    private static void readPlaces() {
        edge.changes("the first four", x -> x.read(1, 0, 0), 0, "register 1", "2 4 6 8");
        edge.changes("the last four", x -> x.read(1, 0, 4), 0, "register 1", "-1 -3 -5 -7");
        for (int i : new int[] {-1, -4, 5, 6, 7, 8, 9, 13, 16, MIN, MAX, MAX - 2, MAX - 3, MAX - 4}) {
            edge.refuses("from " + i + " of eight", x -> x.read(1, 0, i), INDEX);
        }
        for (int i : new int[] {-1, 1}) {
            edge.refuses("from " + i + " of four", x -> x.read(1, 3, i), INDEX);
        }
        edge.refuses("no place", x -> x.read(1, 5, 0), INDEX);
        edge.after(x -> x.sheet(3, 1, 3)).refuses("three places", x -> x.read(1, 3, 0), INDEX);
        Edge full = edge.after(x -> Edge.fill(x, 3, 2, 0, 0, 0, 0, 0, 0, 0, 0, 0, 0, 0, 0, 9, 7, 5, 3));
        full.changes("from 12 of 16", x -> x.read(1, 3, 12), 0, "register 1", "9 7 5 3");
        full.refuses("from 13 of 16", x -> x.read(1, 3, 13), INDEX);
    }

    private static void readHalf() {
        for (int kind = 0; kind <= 2; kind++) {
            int sort = kind;
            for (int i = 0; i < 4; i++) {
                int at = i;
                Edge odd = edge.after(x -> {
                    Edge.fill(x, 3, sort, 2, -2, 0, 4);
                    x.put(3, at, at - 2 | 1);
                });
                odd.refuses("one odd at " + i, x -> x.read(1, 3, 0), HALF);
                Edge even = edge.after(x -> {
                    Edge.fill(x, 3, sort, 1, -1, 3, -3);
                    x.put(3, at, 2 * at - 4);
                });
                even.refuses("one even at " + i, x -> x.read(1, 3, 0), HALF);
            }
            edge.after(x -> Edge.fill(x, 3, sort, 1, 1, 2, 2)).refuses("two and two", x -> x.read(1, 3, 0), HALF);
            edge.after(x -> Edge.fill(x, 3, sort, 1, 2, 1, 2)).refuses("two and two", x -> x.read(1, 3, 0), HALF);
            edge.after(x -> Edge.fill(x, 3, sort, 2, 1, 1, 2)).refuses("two and two", x -> x.read(1, 3, 0), HALF);
            edge.after(x -> Edge.fill(x, 3, sort, -1, 1, -3, 3)).changes("all odd, on both sides of 0",
                x -> x.read(0, 3, 0), 0, "register 0", "-1 1 -3 3");
            edge.after(x -> Edge.fill(x, 3, sort, 0, -2, 4, -6)).changes("all even, on both sides of 0",
                x -> x.read(0, 3, 0), 0, "register 0", "0 -2 4 -6");
        }
    }

    private static void readHigh() {
        for (int i = 0; i < 4; i++) {
            readOneHigh(i, 1);
            readOneHigh(i, 2);
            for (long high : new long[] {1L << 31, 1L << 32, (1L << 32) + 2, -(1L << 32), Long.MIN_VALUE}) {
                withOne(2, i, 2, high).refuses("HIGH " + high, x -> x.read(1, 3, 0), HIGH_ON_SHEET);
            }
            for (long high : new long[] {(1L << 32) + 1, -(1L << 32) - 1, Long.MAX_VALUE, Long.MIN_VALUE + 1}) {
                withOne(2, i, 1, high).refuses("HIGH " + high, x -> x.read(1, 3, 0), HIGH_ON_SHEET);
            }
        }
        edge.after(x -> Edge.fill(x, 3, 0, 127, -127, 127, 1)).changes("bytes never are",
            x -> x.read(1, 3, 0), 0, "register 1", "127 -127 127 1");
    }

    private static Edge withOne(int kind, int i, long fellow, long one) {
        return edge.after(x -> {
            Edge.fill(x, 3, kind, fellow, fellow, fellow, fellow);
            x.put(3, i, one);
        });
    }

    private static void readOneHigh(int i, int kind) {
        for (long last : new long[] {20000, -20000, 19999, -19999}) {
            long fellow = 2 + (last & 1);
            String[] text = {"" + fellow, "" + fellow, "" + fellow, "" + fellow};
            text[i] = "" + last;
            withOne(kind, i, fellow, last).changes("just held " + last, x -> x.read(1, 3, 0), 0,
                "register 1", String.join(" ", text));
        }
        for (long first : new long[] {20001, -20001, 20002, -20002, Integer.MAX_VALUE, Integer.MIN_VALUE}) {
            withOne(kind, i, 2 + (first & 1), first).refuses("HIGH " + first, x -> x.read(1, 3, 0), HIGH_ON_SHEET);
        }
    }

    private static void readOrder() {
        for (int s : Edge.NO_REGISTER) {
            edge.refuses("BAD ahead of NULL", x -> x.read(s, 4, 0), BAD);
            edge.refuses("BAD ahead of INDEX", x -> x.read(s, 3, 1), BAD);
            edge.refuses("BAD ahead of HALF", x -> x.read(s, 0, 1), BAD);
            edge.refuses("BAD ahead of HIGH", x -> x.read(s, 1, 1), BAD);
        }
        for (int r : Edge.NO_SHEET) {
            edge.refuses("BAD ahead of INDEX", x -> x.read(0, r, -1), BAD);
        }
        for (int i : new int[] {-1, 16, MIN, MAX}) {
            edge.refuses("NULL ahead of INDEX", x -> x.read(0, 4, i), NULL);
        }
        Edge mixed = edge.after(x -> Edge.fill(x, 3, 1, 2, 1, 20001, 20003, 20002));
        mixed.refuses("HALF ahead of HIGH", x -> x.read(0, 3, 0), HALF);
        mixed.refuses("HALF ahead of HIGH", x -> x.read(0, 3, 1), HALF);
        mixed.refuses("INDEX ahead of HALF and HIGH", x -> x.read(0, 3, 2), INDEX);
        mixed.refuses("INDEX ahead of HALF", x -> x.read(0, 3, -1), INDEX);
        Edge longs = edge.after(x -> Edge.fill(x, 3, 2, Long.MAX_VALUE, Long.MIN_VALUE, 0, 0));
        longs.refuses("HALF ahead of HIGH", x -> x.read(0, 3, 0), HALF);
    }

    // ---- promise 6: write

    private static void writeNumbers() {
        edge.changes("register 0", x -> x.write(0, 3, 0), 0, "sheet 3", "ints 6 4 2 0");
        edge.changes("register 15", x -> x.write(15, 3, 0), 0, "sheet 3", "ints 8 6 4 2");
        edge.changes("sheet 0", x -> x.write(15, 0, 0), 0, "sheet 0", "bytes 8 6 4 2 -1 -3 -5 -7");
        edge.after(x -> x.sheet(5, 2, 4)).changes("sheet 5", x -> x.write(15, 5, 0), 0, "sheet 5", "longs 8 6 4 2");
        for (int s : Edge.NO_REGISTER) {
            edge.refuses("no register " + s, x -> x.write(s, 3, 0), BAD);
        }
        for (int r : Edge.NO_SHEET) {
            edge.refuses("no sheet " + r, x -> x.write(0, r, 0), BAD);
        }
        edge.refuses("MISSING", x -> x.write(0, 4, 0), NULL);
    }

    /** "INDEX (then none comes)": not those of the four either for which there is a place. */
    private static void writePlaces() {
        edge.changes("the first four", x -> x.write(5, 1, 0), 0, "sheet 1", "ints 3 1 1 1 even-and-high 2");
        edge.changes("the last four", x -> x.write(5, 1, 2), 0, "sheet 1", "ints 20000 -20000 3 1 1 1");
        for (int i : new int[] {-1, -2, -3, -4, 3, 4, 5, 6, 16, MIN, MIN + 3, MAX, MAX - 2, MAX - 3, MAX - 4}) {
            edge.refuses("from " + i + " of six", x -> x.write(5, 1, i), INDEX);
        }
        edge.refuses("from 1 of four", x -> x.write(5, 3, 1), INDEX);
        edge.refuses("no place", x -> x.write(5, 5, 0), INDEX);
        for (int kind = 0; kind <= 2; kind++) {
            int sort = kind;
            edge.after(x -> Edge.fill(x, 3, sort, 5, 6, 7)).refuses("three places", x -> x.write(5, 3, 0), INDEX);
        }
        Edge full = edge.after(x -> x.sheet(3, 0, 16));
        full.changes("from 12 of 16", x -> x.write(5, 3, 12), 0,
            "sheet 3", "bytes" + ZEROS_16.substring(8) + " 3 1 1 1");
        full.refuses("from 13 of 16", x -> x.write(5, 3, 13), INDEX);
    }

    /** "cut to what it keeps"; ints and longs keep every PART. */
    private static void writeCuts() {
        int[][] numbers = {{126, 128, -128, -130}, {127, 129, -127, -129}, {255, 257, -255, -257},
            {256, 254, -256, -254}, {20000, -20000, 384, -384}, {19999, -19999, 383, -383}};
        String[] bytes = {"126 -128 -128 126", "127 -127 -127 127", "-1 1 1 -1",
            "0 -2 0 2", "32 -32 -128 -128", "31 -31 127 -127"};
        for (int k = 0; k < numbers.length; k++) {
            int[] q = numbers[k];
            String all = q[0] + " " + q[1] + " " + q[2] + " " + q[3];
            Edge held = edge.after(x -> x.set(1, q[0], q[1], q[2], q[3]));
            held.changes("bytes of " + all, x -> x.write(1, 0, 4), 0, "sheet 0", "bytes 2 4 6 8 " + bytes[k]);
            held.changes("ints of " + all, x -> x.write(1, 3, 0), 0, "sheet 3", "ints " + all);
            held.changes("longs of " + all, x -> x.write(1, 2, 0), 0,
                "sheet 2", "longs " + all + " 11 3 3 3 3 3 3 3");
        }
    }

    private static void writeOrder() {
        for (int s : Edge.NO_REGISTER) {
            edge.refuses("BAD ahead of NULL", x -> x.write(s, 4, 0), BAD);
            edge.refuses("BAD ahead of INDEX", x -> x.write(s, 3, 1), BAD);
        }
        for (int r : Edge.NO_SHEET) {
            edge.refuses("BAD ahead of INDEX", x -> x.write(0, r, -1), BAD);
        }
        for (int i : new int[] {-1, 16, MIN, MAX}) {
            edge.refuses("NULL ahead of INDEX", x -> x.write(0, 4, i), NULL);
        }
    }
}

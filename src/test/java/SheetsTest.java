/** Promises 1 to 6: a new object, sheet, put, copy, read, write. */
public final class SheetsTest {
    private static final int NULL = -11, INDEX = -12, SIZE = -13, STORE = -14, HALF = -15, HIGH_ON_SHEET = -16;
    private static final int BAD = -1, NO = -2;
    private static final int MIN = Integer.MIN_VALUE, MAX = Integer.MAX_VALUE;

    private static final Due due = new Due();

    public static void main(String[] args) {
        newObject();
        objectsAreApart();
        sheet();
        sheetRefuses();
        put();
        putRefuses();
        copy();
        copyOverItself();
        copyRefuses();
        read();
        readRefuses();
        write();
        writeRefuses();
        due.end();
    }

    private static FourParts withRow(int kind, long... places) {
        FourParts x = new FourParts();
        x.sheet(0, kind, places.length);
        for (int i = 0; i < places.length; i++) {
            x.put(0, i, places[i]);
        }
        return x;
    }

    /** Looks at a place by reading it with three fellows that are even or odd as it is. */
    private static void place(String what, FourParts x, int kind, int r, int i, long want) {
        x.sheet(5, kind, 4);
        long fellow = want & 1;
        for (int k = 1; k < 4; k++) {
            x.put(5, k, fellow);
        }
        due.is(what + ": copy", x.copy(r, i, 5, 0, 1), 0);
        due.is(what + ": read", x.read(15, 5, 0), 0);
        due.parts(what, x, 15, want, fellow, fellow, fellow);
    }

    private static void newObject() {
        FourParts x = new FourParts();
        for (int s = 0; s < 16; s++) {
            due.parts("new", x, s, 0, 0, 0, 0);
        }
        for (int r = 0; r < 6; r++) {
            due.is("new: put", x.put(r, 0, 1), NULL);
        }
        due.is("new: factor", x.factor(0, 0), NO);
    }

    private static void objectsAreApart() {
        FourParts x = withRow(1, 2, 2, 2, 2);
        x.set(0, 2, 4, 0, 0);
        x.way(0, 0, 0, 1);
        FourParts y = new FourParts();
        due.parts("another object", y, 0, 0, 0, 0, 0);
        due.is("another object: put", y.put(0, 0, 1), NULL);
        due.is("another object: factor", y.factor(0, 0), NO);
    }

    private static void sheet() {
        for (int kind = 0; kind <= 2; kind++) {
            FourParts x = new FourParts();
            due.is("16 places", x.sheet(5, kind, 16), 0);
            due.is("the last", x.put(5, 15, 8), 0);
            due.is("beyond", x.put(5, 16, 8), INDEX);
            due.is("made anew", x.sheet(5, kind, 16), 0);
            x.set(0, 2, 2, 2, 2);
            due.is("read", x.read(0, 5, 12), 0);
            due.parts("all 0", x, 0, 0, 0, 0, 0);
            due.is("shorter", x.sheet(5, kind, 3), 0);
            due.is("the last", x.put(5, 2, 8), 0);
            due.is("beyond", x.put(5, 3, 8), INDEX);
            due.is("longer again", x.sheet(5, kind, 4), 0);
            due.is("read", x.read(0, 5, 0), 0);
            due.parts("all 0", x, 0, 0, 0, 0, 0);
            due.is("no place", x.sheet(5, kind, 0), 0);
            due.is("beyond", x.put(5, 0, 8), INDEX);
            due.is("missing", x.sheet(5, -1, MIN), 0);
            due.is("put", x.put(5, 0, 8), NULL);
            due.is("missing", x.sheet(5, -1, MAX), 0);
            due.is("missing", x.sheet(5, -1, 17), 0);
        }
    }

    private static void sheetRefuses() {
        FourParts x = withRow(1, 2, 4, 6, 8);
        due.is("sheet(-1, ..)", x.sheet(-1, 1, 4), BAD);
        due.is("sheet(6, ..)", x.sheet(6, 1, 4), BAD);
        due.is("sheet(min, ..)", x.sheet(MIN, 1, 4), BAD);
        due.is("sheet(max, ..)", x.sheet(MAX, 1, 4), BAD);
        due.is("kind -2", x.sheet(0, -2, 4), BAD);
        due.is("kind 3", x.sheet(0, 3, 4), BAD);
        due.is("n 17", x.sheet(0, 2, 17), BAD);
        due.is("n max", x.sheet(0, 2, MAX), BAD);
        due.is("n -1", x.sheet(0, 2, -1), SIZE);
        due.is("n min", x.sheet(0, 0, MIN), SIZE);
        due.is("BAD ahead of SIZE, r", x.sheet(6, 1, -1), BAD);
        due.is("BAD ahead of SIZE, kind", x.sheet(0, 3, -1), BAD);
        due.is("missing at no sheet", x.sheet(6, -1, 0), BAD);
        due.is("read", x.read(0, 0, 0), 0);
        due.parts("nothing changed", x, 0, 2, 4, 6, 8);
    }

    private static void put() {
        FourParts x = withRow(0, 0, 0);
        long[][] bytes = {{127, 127}, {128, -128}, {-129, 127}, {255, -1}, {256, 0}, {0x12345L << 20 | 3, 3}};
        for (long[] pair : bytes) {
            due.is("put", x.put(0, 1, pair[0]), 0);
            place("byte " + pair[0], x, 0, 0, 1, pair[1]);
        }
        x = withRow(1, 0, 0);
        long[][] ints = {{20000, 20000}, {(1L << 32) + 5, 5}, {(1L << 32) - 7, -7}, {Long.MIN_VALUE, 0}, {300, 300}};
        for (long[] pair : ints) {
            due.is("put", x.put(0, 1, pair[0]), 0);
            place("int " + pair[0], x, 1, 0, 1, pair[1]);
        }
        x = withRow(2, 0, 0, 0, 0);
        due.is("put", x.put(0, 1, (1L << 32) + 4), 0);
        due.is("a long is not cut", x.read(0, 0, 0), HIGH_ON_SHEET);
        due.is("put", x.put(0, 1, -20000), 0);
        due.is("read", x.read(0, 0, 0), 0);
        due.parts("one place alone", x, 0, 0, -20000, 0, 0);
    }

    private static void putRefuses() {
        FourParts x = withRow(1, 2, 4, 6, 8);
        due.is("put(-1, ..)", x.put(-1, 0, 0), BAD);
        due.is("put(6, ..)", x.put(6, 0, 0), BAD);
        due.is("BAD ahead of INDEX", x.put(6, -1, 0), BAD);
        due.is("NULL ahead of INDEX", x.put(1, -1, 0), NULL);
        due.is("put(.., -1)", x.put(0, -1, 0), INDEX);
        due.is("put(.., 4)", x.put(0, 4, 0), INDEX);
        due.is("put(.., min)", x.put(0, MIN, 0), INDEX);
        due.is("put(.., max)", x.put(0, MAX, 0), INDEX);
        due.is("read", x.read(0, 0, 0), 0);
        due.parts("nothing changed", x, 0, 2, 4, 6, 8);
    }

    private static void copy() {
        for (int kind = 0; kind <= 2; kind++) {
            FourParts x = withRow(kind, 2, 4, 6, 8, 10);
            x.sheet(1, kind, 4);
            due.is("copy", x.copy(0, 2, 1, 1, 3), 0);
            due.is("read", x.read(0, 1, 0), 0);
            due.parts("copied", x, 0, 0, 6, 8, 10);
            due.is("read", x.read(0, 0, 1), 0);
            due.parts("where it came from", x, 0, 4, 6, 8, 10);
            due.is("none", x.copy(0, 5, 1, 4, 0), 0);
            due.is("none", x.copy(0, 0, 1, 0, 0), 0);
            due.is("read", x.read(0, 1, 0), 0);
            due.parts("none copied", x, 0, 0, 6, 8, 10);
        }
    }

    private static void copyOverItself() {
        FourParts x = withRow(1, 2, 4, 6, 8, 10);
        due.is("up", x.copy(0, 0, 0, 1, 4), 0);
        x.read(0, 0, 0);
        due.parts("up", x, 0, 2, 2, 4, 6);
        x.read(0, 0, 1);
        due.parts("up", x, 0, 2, 4, 6, 8);
        x = withRow(1, 2, 4, 6, 8, 10);
        due.is("down", x.copy(0, 1, 0, 0, 4), 0);
        x.read(0, 0, 0);
        due.parts("down", x, 0, 4, 6, 8, 10);
        x.read(0, 0, 1);
        due.parts("down", x, 0, 6, 8, 10, 10);
    }

    private static void copyRefuses() {
        FourParts x = withRow(1, 2, 4, 6, 8);
        x.sheet(1, 0, 4);
        x.sheet(2, 1, 4);
        due.is("no such sheet", x.copy(6, 0, 0, 0, 1), BAD);
        due.is("no such sheet", x.copy(0, 0, 6, 0, 1), BAD);
        due.is("BAD ahead of NULL", x.copy(3, 0, -1, 0, 1), BAD);
        due.is("from a missing one", x.copy(3, 0, 0, 0, 1), NULL);
        due.is("to a missing one", x.copy(0, 0, 3, 0, 1), NULL);
        due.is("both missing", x.copy(3, 0, 4, 0, 0), NULL);
        due.is("NULL ahead of INDEX", x.copy(3, -1, 0, 0, -1), NULL);
        due.is("unlike sorts", x.copy(0, 0, 1, 0, 1), STORE);
        due.is("unlike sorts, none", x.copy(1, 0, 0, 0, 0), STORE);
        due.is("STORE ahead of INDEX", x.copy(0, -1, 1, 0, -1), STORE);
        int[][] beyond = {{0, 0, -1}, {-1, 0, 1}, {0, -1, 1}, {0, 0, 5}, {1, 0, 4}, {0, 1, 4}, {5, 0, 0}, {0, 5, 0},
            {MAX, 0, 1}, {0, MAX, 1}, {1, 1, MAX}, {MAX, MAX, MAX}, {MIN, 0, 0}, {0, MIN, MIN}, {2, 0, MIN}};
        for (int[] how : beyond) {
            due.is("beyond", x.copy(0, how[0], 2, how[1], how[2]), INDEX);
        }
        x.sheet(3, 1, 2);
        due.is("beyond the shorter", x.copy(0, 0, 3, 0, 3), INDEX);
        due.is("read", x.read(0, 2, 0), 0);
        due.parts("nothing came", x, 0, 0, 0, 0, 0);
    }

    private static void read() {
        FourParts x = withRow(0, 9, -2, 4, -6, 8, 11);
        due.is("read", x.read(15, 0, 1), 0);
        due.parts("of bytes", x, 15, -2, 4, -6, 8);
        x = withRow(1, 20000, -20000, 20000, -20000, 1);
        due.is("read", x.read(0, 0, 0), 0);
        due.parts("of ints", x, 0, 20000, -20000, 20000, -20000);
        x = withRow(2, 2, 19999, -19999, 1, -1);
        due.is("read", x.read(0, 0, 1), 0);
        due.parts("of longs", x, 0, 19999, -19999, 1, -1);
    }

    private static void readRefuses() {
        FourParts x = withRow(2, 20001, 1, 2, 20001, 1, 1, 1, -20001, 20002, 0, 0, 0, Long.MIN_VALUE, 0, 0, 0);
        x.set(0, 1, 3, 5, 7);
        due.is("no such register", x.read(16, 0, 0), BAD);
        due.is("no such register", x.read(-1, 0, 0), BAD);
        due.is("no such sheet", x.read(0, 6, 0), BAD);
        due.is("BAD ahead of NULL", x.read(16, 1, 0), BAD);
        due.is("NULL ahead of INDEX", x.read(0, 1, -1), NULL);
        due.is("INDEX", x.read(0, 0, -1), INDEX);
        due.is("INDEX", x.read(0, 0, 13), INDEX);
        due.is("INDEX", x.read(0, 0, MAX), INDEX);
        due.is("INDEX", x.read(0, 0, MAX - 3), INDEX);
        due.is("INDEX", x.read(0, 0, MIN), INDEX);
        due.is("HALF ahead of HIGH", x.read(0, 0, 0), HALF);
        due.is("HIGH", x.read(0, 0, 3), HIGH_ON_SHEET);
        due.is("HIGH below", x.read(0, 0, 4), HIGH_ON_SHEET);
        due.is("HIGH", x.read(0, 0, 8), HIGH_ON_SHEET);
        due.is("HIGH at the least long", x.read(0, 0, 12), HIGH_ON_SHEET);
        due.parts("nothing changed", x, 0, 1, 3, 5, 7);
        for (int i = 0; i < 4; i++) {
            x = withRow(1, 2, 2, 2, 2);
            x.put(0, i, 1);
            due.is("HALF at " + i, x.read(0, 0, 0), HALF);
            x.put(0, i, 20002);
            due.is("HIGH at " + i, x.read(0, 0, 0), HIGH_ON_SHEET);
        }
        x.sheet(0, 1, 3);
        due.is("three places", x.read(0, 0, 0), INDEX);
    }

    private static void write() {
        FourParts x = withRow(1, 2, 2, 2, 2, 2, 2);
        x.set(3, 20000, -20000, 4, -6);
        due.is("write", x.write(3, 0, 1), 0);
        x.read(0, 0, 1);
        due.parts("on ints", x, 0, 20000, -20000, 4, -6);
        x.read(0, 0, 0);
        due.parts("not ahead", x, 0, 2, 20000, -20000, 4);
        x.read(0, 0, 2);
        due.parts("not behind", x, 0, -20000, 4, -6, 2);
        x = withRow(0, 0, 0, 0, 0);
        x.set(3, 129, 255, -129, 257);
        due.is("write", x.write(3, 0, 0), 0);
        x.read(0, 0, 0);
        due.parts("cut to bytes", x, 0, -127, -1, 127, 1);
        due.parts("the register stays", x, 3, 129, 255, -129, 257);
        x = withRow(2, 0, 0, 0, 0);
        x.set(3, 129, 255, -129, 257);
        due.is("write", x.write(3, 0, 0), 0);
        x.read(0, 0, 0);
        due.parts("on longs", x, 0, 129, 255, -129, 257);
    }

    private static void writeRefuses() {
        FourParts x = withRow(1, 2, 4, 6, 8, 10);
        x.set(3, 1, 3, 5, 7);
        due.is("no such register", x.write(16, 0, 0), BAD);
        due.is("no such register", x.write(-1, 0, 0), BAD);
        due.is("no such sheet", x.write(0, 6, 0), BAD);
        due.is("BAD ahead of NULL", x.write(16, 1, 0), BAD);
        due.is("NULL ahead of INDEX", x.write(3, 1, -1), NULL);
        due.is("INDEX", x.write(3, 0, -1), INDEX);
        due.is("INDEX", x.write(3, 0, 2), INDEX);
        due.is("INDEX", x.write(3, 0, MAX), INDEX);
        due.is("INDEX", x.write(3, 0, MIN), INDEX);
        x.read(0, 0, 0);
        due.parts("none came", x, 0, 2, 4, 6, 8);
        x.read(0, 0, 1);
        due.parts("none came", x, 0, 4, 6, 8, 10);
    }
}

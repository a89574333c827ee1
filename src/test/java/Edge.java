import java.util.LinkedHashMap;
import java.util.Map;

/**
 * One call on an object that has something everywhere: what it answers, and all that it changed.
 * Setting up, the call and looking at the whole object stay below the 512 calls that are promised.
 */
final class Edge {
    interface Call {
        long on(FourParts x);
    }

    interface Start {
        void on(FourParts x);
    }

    static final int BAD = -1, NO = -2, HIGH = -3, NONE = -4;
    static final int NULL = -11, INDEX = -12, SIZE = -13, STORE = -14, HALF = -15, HIGH_ON_SHEET = -16;
    static final int MIN = Integer.MIN_VALUE, MAX = Integer.MAX_VALUE;

    /** What no register is: both sides of 0 to 15, and what is far off. */
    static final int[] NO_REGISTER = {-1, 16, MIN, MAX};
    static final int[] NO_SHEET = {-1, 6, MIN, MAX};
    static final int[] NO_SIDE = {-1, 2, MIN, MAX};

    /** By their numbers: a UNIT 1, 9; zero 2; the highest 3, 4, 10, 11; not PRIMITIVE 6; the NORM 275 13. */
    private static final int[][] REGISTERS = {
        {6, 4, 2, 0}, {1, 1, 1, 1}, {0, 0, 0, 0}, {20000, 20000, 20000, 20000},
        {-20000, -20000, -20000, -20000}, {3, 1, 1, 1}, {2, 2, 2, 2}, {19999, -19999, 1, -1},
        {4, 0, 0, 0}, {-2, 0, 0, 0}, {20000, 0, 0, 0}, {0, -20000, 0, 0},
        {2, 2, 0, 0}, {33, 3, 1, 1}, {129, 255, -129, 257}, {8, 6, 4, 2}
    };

    private static final String[] SORTS = {"bytes", "ints", "longs"};
    private static final int PROBE = 4;

    private final Due due;
    private final Start start;
    private final Map<String, String> ahead;

    Edge(Due due) {
        this(due, x -> { });
    }

    private Edge(Due due, Start start) {
        this.due = due;
        this.start = start;
        ahead = look(made());
    }

    /** The same with some calls more ahead of the one that is tried. */
    Edge after(Start more) {
        return new Edge(due, x -> {
            start.on(x);
            more.on(x);
        });
    }

    /** The call gives that answer, and nothing has changed. */
    void refuses(String name, Call call, long want) {
        changes(name, call, want);
    }

    /** The call gives that answer; what is named is then as told (a name, its value, ..), all else as it was. */
    void changes(String name, Call call, long want, String... namesAndValues) {
        FourParts x = made();
        due.is(name, call.on(x), want);
        Map<String, String> expected = new LinkedHashMap<>(ahead);
        for (int i = 0; i + 1 < namesAndValues.length; i += 2) {
            due.holds(namesAndValues[i] + " is looked at", expected.containsKey(namesAndValues[i]));
            expected.put(namesAndValues[i], namesAndValues[i + 1]);
        }
        Map<String, String> seen = look(x);
        for (String key : expected.keySet()) {
            due.same(name + ": " + key, seen.get(key), expected.get(key));
        }
    }

    /** Sheets 0 bytes, 1 ints, 2 longs, 3 ints, 4 MISSING, 5 bytes without a place; a WAY of three FACTORS. */
    private FourParts made() {
        FourParts x = new FourParts();
        for (int s = 0; s < 16; s++) {
            due.is("set", x.set(s, REGISTERS[s][0], REGISTERS[s][1], REGISTERS[s][2], REGISTERS[s][3]), 0);
        }
        fill(x, 0, 0, 2, 4, 6, 8, -1, -3, -5, -7);
        fill(x, 1, 1, 20000, -20000, 18, -16, 20002, 2);
        fill(x, 2, 2, 2, 7, 5, 5, 11, 3, 3, 3, 3, 3, 3, 3);
        fill(x, 3, 1, 1, 3, 5, 7);
        fill(x, 5, 0);
        due.is("way", x.way(13, 2, 2, 3), 3);
        start.on(x);
        return x;
    }

    static void fill(FourParts x, int r, int kind, long... places) {
        x.sheet(r, kind, places.length);
        for (int i = 0; i < places.length; i++) {
            x.put(r, i, places[i]);
        }
    }

    /** All that can be seen of an object; it is not to be used any more then. */
    static Map<String, String> look(FourParts x) {
        Map<String, String> seen = new LinkedHashMap<>();
        for (int s = 0; s < 16; s++) {
            seen.put("register " + s, parts(x, s));
        }
        seen.put("way", factors(x));
        seen.put("sheet " + PROBE, x.put(PROBE, -1, 0) == NULL ? "MISSING" : "there");
        for (int r = 0; r < 6; r++) {
            if (r != PROBE) {
                seen.put("sheet " + r, row(x, r));
            }
        }
        return seen;
    }

    private static String parts(FourParts x, int s) {
        return x.part(s, 0) + " " + x.part(s, 1) + " " + x.part(s, 2) + " " + x.part(s, 3);
    }

    private static String factors(FourParts x) {
        StringBuilder text = new StringBuilder();
        for (int k = 0; k < 13 && x.factor(15, k) != NO; k++) {
            text.append(k == 0 ? "" : ", ").append(parts(x, 15));
        }
        return text.toString();
    }

    private static String row(FourParts x, int r) {
        if (x.put(r, -1, 0) == NULL) {
            return "MISSING";
        }
        int kind = 0;
        while (kind < 3 && !isOfSort(x, r, kind)) {
            kind++;
        }
        if (kind == 3) {
            return "of no sort";
        }
        StringBuilder text = new StringBuilder(SORTS[kind]);
        for (int i = 0; i < 17 && x.copy(r, i, PROBE, 0, 1) == 0; i++) {
            text.append(' ').append(place(x, r, i));
        }
        return text.toString();
    }

    /** Makes the probe a row of that sort: a place for an even one with three 0, one for an odd one with three 1. */
    private static boolean isOfSort(FourParts x, int r, int kind) {
        x.sheet(PROBE, kind, 8);
        for (int i = 5; i < 8; i++) {
            x.put(PROBE, i, 1);
        }
        return x.copy(r, 0, PROBE, 0, 0) == 0;
    }

    private static String place(FourParts x, int r, int i) {
        int odd = 0;
        int answer = x.read(15, PROBE, 0);
        if (answer == HALF) {
            odd = 1;
            x.copy(r, i, PROBE, 4, 1);
            answer = x.read(15, PROBE, 4);
        }
        if (answer == HIGH_ON_SHEET) {
            return odd == 1 ? "odd-and-high" : "even-and-high";
        }
        return answer == 0 ? String.valueOf(x.part(15, 0)) : "answer " + answer;
    }
}

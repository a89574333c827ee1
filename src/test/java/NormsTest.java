import java.util.List;

/** Promises 16 and 17: many, listed. */
public final class NormsTest {
    private static final int BAD = -1, NONE = -4;
    private static final int MIN = Integer.MIN_VALUE, MAX = Integer.MAX_VALUE;
    private static final int CALLS = 500;

    private static final Due due = new Due();

    public static void main(String[] args) {
        many();
        manyRefuses();
        listed();
        firstAndLast();
        listedRefuses();
        due.end();
    }

    private static void many() {
        int[][] known = {{1, 24, 8, 24}, {2, 24, 24, 24}, {3, 96, 32, 96}, {4, 24, 24, 0}, {9, 312, 104, 288},
            {195, 8064, 2688, 8064}, {200, 744, 744, 0}};
        Model model = new Model();
        for (int what = 0; what <= 2; what++) {
            FourParts x = new FourParts();
            for (int[] row : known) {
                due.is("many(" + row[0] + ", " + what + ")", x.many(row[0], what), row[what + 1]);
            }
            for (int n = 1; n <= 200; n++) {
                due.is("many(" + n + ", " + what + ")", x.many(n, what), model.many(n, what));
            }
        }
    }

    private static void manyRefuses() {
        FourParts x = new FourParts();
        for (int n : new int[] {0, -1, 201, MIN, MAX}) {
            for (int what = -1; what <= 3; what++) {
                due.is("many(" + n + ", " + what + ")", x.many(n, what), BAD);
            }
        }
        for (int what : new int[] {-1, 3, MIN, MAX}) {
            due.is("many(7, " + what + ")", x.many(7, what), BAD);
        }
    }

    private static void listed() {
        for (int n = 1; n <= 200; n++) {
            List<long[]> all = Model.listOf(n);
            FourParts x = new FourParts();
            for (int i = 0; i < all.size(); i++) {
                if (i % (CALLS / 5) == 0) {
                    x = new FourParts();
                }
                due.is("listed(" + n + ", " + i + ")", x.listed(i % 16, n, i), 1);
                due.parts("listed(" + n + ", " + i + ")", x, i % 16, all.get(i));
            }
            due.is("one more", x.listed(0, n, all.size()), NONE);
        }
    }

    private static void firstAndLast() {
        FourParts x = new FourParts();
        x.listed(0, 200, 0);
        due.parts("the first of 200", x, 0, 28, 4, 0, 0);
        x.listed(0, 200, 743);
        due.parts("the last of 200", x, 0, -28, -4, 0, 0);
        x.listed(0, 199, 0);
        due.parts("the first of 199", x, 0, 28, 2, 2, 2);
        x.listed(0, 3, 0);
        due.parts("the first of 3", x, 0, 3, 1, 1, 1);
    }

    private static void listedRefuses() {
        FourParts x = new FourParts();
        x.set(0, 1, 3, 5, 7);
        due.is("i beyond", x.listed(0, 1, 24), NONE);
        due.is("i max", x.listed(0, 1, MAX), NONE);
        due.is("i -1", x.listed(0, 1, -1), BAD);
        due.is("i min", x.listed(0, 1, MIN), BAD);
        due.is("n 0", x.listed(0, 0, 0), BAD);
        due.is("n -1", x.listed(0, -1, 0), BAD);
        due.is("n 201", x.listed(0, 201, 0), BAD);
        due.is("n max", x.listed(0, MAX, 0), BAD);
        due.is("n min", x.listed(0, MIN, 0), BAD);
        due.is("s -1", x.listed(-1, 1, 0), BAD);
        due.is("s 16", x.listed(16, 1, 0), BAD);
        due.is("s 16, i beyond", x.listed(16, 1, 24), BAD);
        due.parts("nothing changed", x, 0, 1, 3, 5, 7);
    }
}

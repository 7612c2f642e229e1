import java.util.List;

/**
 * STEPS, LAMPS, HOOKS and GAME ask nothing but their arguments, and these are few: each of them that can be, and some
 * beside them, against the Model or what is counted here in another way.
 */
public final class AllTest {
    private static final Due due = new Due("AllTest");
    private static final int MOST_CALLS = 512;
    private static final int MOST_HATS = 9;

    private static PorchHours x = new PorchHours();
    private static int calls = 0;

    public static void main(String[] args) {
        Model m = new Model();
        steps(m);
        lamps(m);
        game(m);
        for (int n = 1; n <= MOST_HATS; n++) hooks(n);
        otherRows(m);
        due.close();
    }

    /** An object is good for so many calls. */
    private static PorchHours next() {
        if (calls % MOST_CALLS == 0) x = new PorchHours();
        calls++;
        return x;
    }

    private static void steps(Model m) {
        for (int n = -1; n <= 41; n++) {
            for (int paces = -1; paces <= 32; paces++) {
                for (int what = -1; what <= 2; what++) {
                    due.is("37: steps(" + n + ", " + paces + ", " + what + ")", next().steps(n, paces, what), m.steps(n, paces, what));
                }
            }
        }
    }

    private static void lamps(Model m) {
        for (int a = 0; a <= 13; a++) {
            for (int b = 0; b <= 13; b++) {
                for (int c = 0; c <= 13; c++) {
                    for (int q = -1; q <= 13; q++) {
                        due.is("38: lamps(" + a + ", " + b + ", " + c + ", " + q + ")", next().lamps(a, b, c, q), m.lamps(a, b, c, q));
                    }
                }
            }
        }
    }

    private static void game(Model m) {
        for (int a = 0; a <= 201; a++) {
            for (int b = 0; b <= 201; b++) due.is("40: game(" + a + ", " + b + ")", next().game(a, b), m.game(a, b));
        }
    }

    private static void hooks(int n) {
        List<int[]> all = Model.permutations(n);
        for (int place = 0; place < all.size(); place++) {
            int[] hats = all.get(place);
            int row = 1;
            for (int hat : hats) row = 10 * row + hat;
            due.is("39: hooks(" + row + ", 0)", next().hooks(row, 0), longestUp(hats));
            due.is("39: hooks(" + row + ", 1)", next().hooks(row, 1), turnsToSort(hats));
            due.is("39: hooks(" + row + ", 2)", next().hooks(row, 2), place);
        }
    }

    /** Hat by hat upon the first heap whose top is greater, else upon a new one: as many heaps as the longest has hats. */
    private static int longestUp(int[] hats) {
        int[] tops = new int[hats.length];
        int heaps = 0;
        for (int hat : hats) {
            int heap = 0;
            while (heap < heaps && tops[heap] < hat) heap++;
            tops[heap] = hat;
            if (heap == heaps) heaps++;
        }
        return heaps;
    }

    /** Two that hang side by side the wrong way round change hooks, till none do. */
    private static int turnsToSort(int[] hats) {
        int[] row = hats.clone();
        int turns = 0;
        for (int end = row.length - 1; end > 0; end--) {
            for (int i = 0; i < end; i++) {
                if (row[i] < row[i + 1]) continue;
                int hat = row[i];
                row[i] = row[i + 1];
                row[i + 1] = hat;
                turns++;
            }
        }
        return turns;
    }

    private static void otherRows(Model m) {
        for (int row = -100; row < 14000; row++) {
            for (int what = -1; what <= 3; what++) {
                due.is("39: hooks(" + row + ", " + what + ")", next().hooks(row, what), m.hooks(row, what));
            }
        }
    }
}

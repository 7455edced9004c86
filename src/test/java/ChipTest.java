/** Promises 6 to 8, 14 and 22 to 24: chips, their product and its paths. */
public final class ChipTest {
    private static final Due DUE = new Due("ChipTest");
    private static final long NO = Long.MIN_VALUE;

    public static void main(String[] args) {
        chip();
        clear();
        take();
        chipOf();
        product();
        productMinor();
        paths();
        DUE.end();
    }

    private static void chip() {
        MinorTables x = new MinorTables();
        x.minor(1, 1);
        for (int kind : new int[] {-1, 3, Integer.MAX_VALUE, Integer.MIN_VALUE}) {
            DUE.is("6 kind " + kind, x.chip(kind, 0, 1), -1);
        }
        for (int i : new int[] {-1, 2, 3, Integer.MAX_VALUE, Integer.MIN_VALUE}) {
            DUE.is("6 RISE of " + i, x.chip(0, i, 1), -1);
            DUE.is("6 FALL of " + i, x.chip(1, i, 1), -1);
        }
        DUE.is("6 SCALE of -1", x.chip(2, -1, 1), -1);
        DUE.is("6 SCALE of 3", x.chip(2, 3, 1), -1);
        DUE.is("6 NONE ahead of BAD", x.chip(2, 3, 0), -1);
        DUE.is("6 v 0", x.chip(0, 0, 0), -2);
        DUE.is("6 v 10", x.chip(0, 0, 10), -2);
        DUE.is("6 v below", x.chip(2, 2, -1), -2);
        int[][] good = {{0, 0, 1}, {0, 1, 9}, {1, 0, 1}, {1, 1, 9}, {2, 0, 1}, {2, 1, 9}, {2, 2, 5}};
        int many = 0;
        for (int[] c : good) {
            DUE.is("6 chip comes", x.chip(c[0], c[1], c[2]), ++many);
        }
        for (; many < 12; many++) {
            DUE.is("6 more", x.chip(2, 0, 1), many + 1);
        }
        DUE.is("6 the thirteenth", x.chip(2, 0, 1), -4);
        DUE.is("6 BAD ahead of FULL", x.chip(2, 0, 10), -2);
        DUE.is("6 NONE ahead of FULL", x.chip(2, 3, 1), -1);
        DUE.is("6 how many", x.told(1), 12);
        DUE.is("6 NOTED stays", x.told(5), 1);
    }

    private static void clear() {
        MinorTables x = new MinorTables();
        x.minor(1, 1);
        DUE.is("7 none", x.clear(), 0);
        x.chip(0, 0, 2);
        x.chip(1, 0, 2);
        DUE.is("7 two", x.clear(), 2);
        DUE.is("7 told", x.told(1), 0);
        DUE.is("7 product", x.product(1), 0);
        DUE.is("7 NOTED stays", x.told(5), 1);
        DUE.is("7 chips again", x.chip(2, 0, 1), 1);
    }

    private static void take() {
        MinorTables x = Due.table(2, 5, 6, 7, 8);
        x.minor(1, 1);
        x.chip(2, 0, 9);
        x.chip(2, 0, 9);
        x.chip(0, 0, 1);
        DUE.is("8 take", x.take(), 1);
        int[] due = {81, 81, 0, 1};
        for (int p = 0; p < 4; p++) {
            DUE.is("8 number " + p, x.of(0, 10 * (p / 2) + p % 2), due[p] + 100);
        }
        DUE.is("8 nothing NOTED", x.told(5), 0);
        DUE.is("8 chips stay", x.told(1), 3);
        DUE.is("8 product stays", x.product(1), 81);
        x.minor(1, 1);
        x.chip(2, 1, 2);
        DUE.is("8 162 is above 99", x.take(), -3);
        DUE.is("8 STATE leaves NOTED", x.told(5), 1);
        DUE.is("8 STATE leaves the chips", x.told(1), 4);
        DUE.is("8 STATE leaves the table", x.of(0, 11), 101);
        MinorTables y = new MinorTables();
        y.size(2);
        for (int v : new int[] {9, 9}) {
            y.chip(0, 0, v);
        }
        for (int k = 0; k < 9; k++) {
            y.chip(0, 0, 9);
        }
        DUE.is("8 99 is not above", y.take(), 1);
        DUE.is("8 99", y.of(0, 1), 199);
        y.chip(0, 0, 1);
        DUE.is("8 100 is above", y.take(), -3);
        everySpotAbove();
        MinorTables z = Due.table(2, 5, 6, 7, 8);
        DUE.is("8 no chips", z.take(), 1);
        DUE.is("8 no chips: 1", z.of(0, 0), 101);
        DUE.is("8 no chips: 0", z.of(0, 1), 100);
    }

    /** One number of the product alone is above 99, wherever it stands. */
    private static void everySpotAbove() {
        int[][] steps = {{1, 0}, {1, 1}, {1, 2}, {0, 0}, {0, 1}, {0, 2}, {2, 0}, {2, 1}, {2, 2}, {2, 3}};
        for (int[] step : steps) {
            MinorTables x = new MinorTables();
            x.size(4);
            for (int k = 0; k < (step[0] == 2 ? 3 : 12); k++) {
                x.chip(step[0], step[1], 9);
            }
            DUE.is("8 above 99", x.take(), -3);
        }
    }

    private static void chipOf() {
        MinorTables x = new MinorTables();
        x.chip(1, 0, 7);
        x.chip(2, 2, 3);
        int[][] due = {{1, 0, 7}, {2, 2, 3}};
        for (int chip = 0; chip < 2; chip++) {
            for (int what = 0; what < 3; what++) {
                DUE.is("14 chip " + chip, x.chipOf(chip, what), due[chip][what]);
            }
        }
        int[][] none = {{2, 0}, {-1, 0}, {0, 3}, {0, -1}, {Integer.MAX_VALUE, 0}, {Integer.MIN_VALUE, 2},
            {1, Integer.MAX_VALUE}, {1, Integer.MIN_VALUE}};
        for (int[] n : none) {
            DUE.is("14 none", x.chipOf(n[0], n[1]), -1);
        }
    }

    private static void product() {
        MinorTables x = new MinorTables();
        DUE.is("22 no chips, alike", x.product(22), 1);
        DUE.is("22 no chips, unlike", x.product(20), 0);
        x.chip(0, 0, 2);
        x.chip(1, 0, 3);
        // (1 2; 0 1) times (1 0; 3 1)
        int[] due = {7, 2, 0, 3, 1, 0, 0, 0, 1};
        for (int p = 0; p < 9; p++) {
            DUE.is("22 number " + p, x.product(10 * (p / 3) + p % 3), due[p]);
        }
        x.chip(2, 1, 5);
        DUE.is("22 SCALE scales a column", x.product(1), 10);
        DUE.is("22 SCALE leaves the row's others", x.product(10), 3);
        for (int none : new int[] {3, 30, -1, -10, Integer.MAX_VALUE, Integer.MIN_VALUE}) {
            DUE.is("22 product(" + none + ")", x.product(none), NO);
        }
        DUE.is("22 the table stays", x.of(0, 1), 100);
    }

    private static MinorTables great(int n) {
        MinorTables x = new MinorTables();
        x.size(n);
        for (int k = 0; k < 6; k++) {
            x.chip(0, k % (n - 1), 9);
            x.chip(1, k % (n - 1), 9);
        }
        return x;
    }

    private static void productMinor() {
        MinorTables x = new MinorTables();
        x.chip(0, 0, 2);
        x.chip(1, 0, 3);
        DUE.is("23 one", x.productMinor(1, 2), 2);
        DUE.is("23 two", x.productMinor(3, 3), 1);
        DUE.is("23 two unlike", x.productMinor(5, 5), 7);
        DUE.is("23 all", x.productMinor(7, 7), 1);
        int[][] none = {{0, 0}, {1, 3}, {3, 1}, {8, 8}, {7, 15}, {-1, -1}, {1, 0}, {9, 3}, {Integer.MIN_VALUE, 1},
            {Integer.MAX_VALUE, Integer.MAX_VALUE}, {1, 8}, {8, 1}};
        for (int[] m : none) {
            DUE.is("23 none", x.productMinor(m[0], m[1]), NO);
            DUE.is("24 none", x.paths(m[0], m[1]), NO);
        }
        DUE.is("23 nothing NOTED", x.told(5), 0);
        MinorTables y = great(2);
        DUE.holds("23 great numbers", y.product(0) > 100_000_000_000L);
        DUE.is("23 their products are beyond longs", y.productMinor(3, 3), 1);
        DUE.is("24 their products are beyond longs", y.paths(3, 3), 1);
    }

    private static void paths() {
        MinorTables x = new MinorTables();
        DUE.is("24 no chips, like sets", x.paths(5, 5), 1);
        DUE.is("24 no chips, unlike sets", x.paths(5, 6), 0);
        x.chip(0, 0, 2);
        x.chip(0, 1, 3);
        DUE.is("24 0 to 2", x.paths(1, 4), 6);
        DUE.is("24 0 can't rise to 1 where another stays", x.paths(3, 6), 0);
        DUE.is("24 0 and 1 to 0 and 2", x.paths(3, 5), 3);
        DUE.is("24 none fall", x.paths(4, 1), 0);
        x.chip(2, 2, 4);
        DUE.is("24 SCALE", x.paths(3, 5), 12);
        x.chip(1, 1, 5);
        DUE.is("24 by either way", x.paths(1, 2), 2 + 6 * 4 * 5);
        DUE.is("24 nothing NOTED", x.told(5), 0);
        for (int n = 2; n <= 4; n++) {
            MinorTables y = great(n);
            for (int rows = 1; rows < 1 << n; rows++) {
                for (int columns = 1; columns < 1 << n; columns++) {
                    DUE.is("24 paths are minors", y.paths(rows, columns), y.productMinor(rows, columns));
                }
            }
        }
    }
}

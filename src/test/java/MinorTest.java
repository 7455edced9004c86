/** Promises 15 to 21: minors, factors, sums, unlike ones, numbers that may stand. */
public final class MinorTest {
    private static final Due DUE = new Due("MinorTest");
    private static final long NO = Long.MIN_VALUE;

    public static void main(String[] args) {
        minor();
        noted();
        first();
        factor();
        factorsMultiplyBack();
        sum();
        unlike();
        may();
        DUE.end();
    }

    private static void minor() {
        MinorTables x = Due.table(4, 2, 3, 5, 7, 11, 13, 17, 19, 23, 29, 31, 37, 41, 43, 47, 53);
        DUE.is("15 one", x.minor(2, 8), 19);
        DUE.is("15 two", x.minor(3, 3), 2 * 13 - 3 * 11);
        DUE.is("15 two apart", x.minor(5, 10), 3 * 37 - 7 * 29);
        DUE.is("15 three", x.minor(7, 7), 70);
        DUE.is("15 four", x.minor(15, 15), 880);
        int[][] none = {{0, 0}, {1, 3}, {3, 1}, {16, 16}, {17, 3}, {3, 17}, {-1, -1}, {-1, 15}, {1, 0}, {0, 1}, {16, 1},
            {1, 16}, {Integer.MIN_VALUE, Integer.MIN_VALUE}, {Integer.MAX_VALUE, Integer.MAX_VALUE}};
        for (int[] m : none) {
            DUE.is("15 none", x.minor(m[0], m[1]), NO);
        }
        DUE.is("15 those that are none aren't NOTED", x.told(5), 5);
        MinorTables y = Due.table(2, 99, -99, 99, 99);
        DUE.is("15 greatest", y.minor(3, 3), 2 * 99 * 99);
        DUE.is("15 least", Due.table(2, 99, 99, 99, -99).minor(3, 3), -2 * 99 * 99);
        DUE.is("15 beyond the size", y.minor(4, 4), NO);
        DUE.is("15 of a new one", new MinorTables().minor(7, 7), 1);
        DUE.is("15 a swap of rows", Due.table(3, 0, 1, 0, 1, 0, 0, 0, 0, 1).minor(7, 7), -1);
        DUE.is("15 rows round", Due.table(3, 0, 1, 0, 0, 0, 1, 1, 0, 0).minor(7, 7), 1);
    }

    private static void noted() {
        MinorTables x = new MinorTables();
        x.size(4);
        DUE.is("16 none yet", x.noted(0), -5);
        DUE.is("16 below", x.noted(-1), -1);
        DUE.is("16 far below", x.noted(Integer.MIN_VALUE), -1);
        DUE.is("16 far beyond", x.noted(Integer.MAX_VALUE), -5);
        x.minor(1, 2);
        x.minor(2, 1);
        x.minor(15, 15);
        x.minor(1, 2);
        DUE.is("16 first", x.noted(0), 102);
        DUE.is("16 second", x.noted(1), 201);
        DUE.is("16 third", x.noted(2), 1515);
        DUE.is("16 no fourth", x.noted(3), -5);
        int many = 3;
        for (int rows = 1; rows < 16; rows++) {
            for (int columns = 1; columns < 16; columns++) {
                boolean anew = x.minor(rows, columns) != NO && !(rows + columns == 3 || rows == 15);
                if (anew) {
                    many++;
                    DUE.is("16 how many", x.told(5), many);
                    DUE.is("16 the last", x.noted(many - 1), 100 * rows + columns);
                }
            }
        }
        DUE.is("16 all", many, 69);
        x.first(0);
        x.sum(2);
        x.may(0, 0);
        DUE.is("16 others leave it", x.told(5), 69);
        x.set(0, 1);
        DUE.is("16 gone", x.noted(0), -5);
    }

    private static void first() {
        MinorTables x = Due.table(4, 2, 3, 5, 7, 11, 13, 17, 19, 23, 29, 31, 37, 41, 43, 47, 53);
        DUE.is("17 corner", x.first(0), 2);
        DUE.is("17 first row", x.first(3), 7);
        DUE.is("17 first column", x.first(30), 41);
        DUE.is("17 middle", x.first(11), 2 * 13 - 3 * 11);
        DUE.is("17 row 1, column 3", x.first(13), 5 * 19 - 7 * 17);
        DUE.is("17 row 3, column 1", x.first(31), 23 * 43 - 29 * 41);
        DUE.is("17 row 2, column 2", x.first(22), 70);
        DUE.is("17 all", x.first(33), 880);
        for (int none : new int[] {4, 9, 14, 40, 44, -1, -10, Integer.MAX_VALUE, Integer.MIN_VALUE}) {
            DUE.is("17 first(" + none + ")", x.first(none), NO);
        }
        DUE.is("17 not there by 2", Due.table(2, 1, 2, 3, 4).first(2), NO);
    }

    private static void fraction(MinorTables x, int spot, long above, long below) {
        DUE.is("18 above of " + spot, x.factor(spot, 0), above);
        DUE.is("18 below of " + spot, x.factor(spot, 1), below);
    }

    private static void factor() {
        MinorTables x = Due.table(2, 4, 6, 10, 20);
        fraction(x, 0, 4, 1);
        fraction(x, 1, 3, 2);
        fraction(x, 10, 5, 2);
        fraction(x, 11, 5, 1);
        DUE.is("18 part 2", x.factor(0, 2), NO);
        DUE.is("18 part -1", x.factor(0, -1), NO);
        for (int none : new int[] {2, 12, 20, -1, Integer.MAX_VALUE, Integer.MIN_VALUE}) {
            DUE.is("18 factor(" + none + ")", x.factor(none, 0), NO);
        }
        DUE.is("18 nothing NOTED", x.told(5), 0);
        x.set(11, 15);
        DUE.is("18 a minor of 0", x.factor(0, 0), NO);
        MinorTables y = Due.table(3, 1, 1, 1, 2, 3, 5, 3, 6, 14);
        fraction(y, 0, 1, 1);
        fraction(y, 11, 1, 1);
        fraction(y, 22, 2, 1);
        fraction(y, 10, 2, 1);
        fraction(y, 20, 3, 2);
        fraction(y, 21, 3, 2);
        fraction(y, 1, 1, 1);
        fraction(y, 2, 1, 1);
        fraction(y, 12, 2, 1);
        y.turn();
        fraction(y, 1, 2, 1);
        fraction(y, 2, 3, 2);
        fraction(y, 12, 3, 2);
        fraction(y, 20, 1, 1);
        fraction(y, 21, 2, 1);
    }

    private static final long[] NOUGHT = {0, 1}, ONE = {1, 1};

    /** Tables of two lines, 1 and a factor below it, and the middle ones multiply back to the table. */
    private static void factorsMultiplyBack() {
        int[][] tables = {{1, 1, 1, 1, 1, 2, 4, 8, 1, 3, 9, 27, 1, 4, 16, 64}, {1, 1, 1, 1, 1, 2, 3, 4, 1, 3, 6, 10, 1, 4, 10, 20},
            {48, 16, 8, 4, 96, 36, 24, 14, 48, 22, 24, 19, 96, 47, 61, 85}, {36, 36, 36, 18, 36, 42, 48, 27, 18, 24, 36, 33, 12, 17, 37, 99},
            {1, 1, 1, 2, 3, 5, 3, 6, 14}, {4, 6, 10, 20}};
        for (int[] numbers : tables) {
            int n = numbers.length == 16 ? 4 : numbers.length == 9 ? 3 : 2;
            MinorTables x = Due.table(n, numbers);
            DUE.is("18 POSITIVE", x.told(2), 1);
            long[][][] middle = unit(n);
            for (int i = 0; i < n; i++) {
                middle[i][i] = fraction(x, 11 * i);
            }
            long[][][] back = times(times(lower(x, n, false), middle), turned(lower(x, n, true)));
            for (int p = 0; p < numbers.length; p++) {
                DUE.is("18 back above", back[p / n][p % n][0], numbers[p]);
                DUE.is("18 back below", back[p / n][p % n][1], 1);
            }
        }
    }

    private static long[][][] lower(MinorTables x, int n, boolean upper) {
        long[][][] product = unit(n);
        for (int j = 0; j < n - 1; j++) {
            for (int i = n - 1; i > j; i--) {
                long[][][] one = unit(n);
                one[i][i - 1] = fraction(x, upper ? 10 * j + i : 10 * i + j);
                product = times(product, one);
            }
        }
        return product;
    }

    private static long[] fraction(MinorTables x, int spot) {
        return new long[] {x.factor(spot, 0), x.factor(spot, 1)};
    }

    private static long[][][] unit(int n) {
        long[][][] u = new long[n][n][];
        for (int p = 0; p < n * n; p++) {
            u[p / n][p % n] = p / n == p % n ? ONE : NOUGHT;
        }
        return u;
    }

    private static long[][][] turned(long[][][] a) {
        long[][][] t = unit(a.length);
        for (int p = 0; p < a.length * a.length; p++) {
            t[p % a.length][p / a.length] = a[p / a.length][p % a.length];
        }
        return t;
    }

    private static long[][][] times(long[][][] a, long[][][] b) {
        long[][][] c = unit(a.length);
        for (int i = 0; i < a.length; i++) {
            for (int j = 0; j < a.length; j++) {
                c[i][j] = NOUGHT;
                for (int k = 0; k < a.length; k++) {
                    c[i][j] = plus(c[i][j], a[i][k][0] * b[k][j][0], a[i][k][1] * b[k][j][1]);
                }
            }
        }
        return c;
    }

    private static long[] plus(long[] a, long above, long below) {
        java.math.BigInteger up = java.math.BigInteger.valueOf(a[0] * below + above * a[1]);
        java.math.BigInteger down = java.math.BigInteger.valueOf(a[1] * below);
        java.math.BigInteger common = up.gcd(down);
        return new long[] {up.divide(common).longValueExact(), down.divide(common).longValueExact()};
    }

    private static void sum() {
        MinorTables x = Due.table(3, 1, 2, 3, 4, 5, 6, 7, 8, 10);
        DUE.is("19 of 0", x.sum(0), 1);
        DUE.is("19 of 1", x.sum(1), 16);
        DUE.is("19 of 2", x.sum(2), 5 - 8 + 10 - 21 + 50 - 48);
        DUE.is("19 of 3", x.sum(3), -3);
        for (int none : new int[] {4, -1, Integer.MAX_VALUE, Integer.MIN_VALUE}) {
            DUE.is("19 sum(" + none + ")", x.sum(none), NO);
        }
        DUE.is("19 nothing NOTED", x.told(5), 0);
        MinorTables y = Due.table(2, -1, 2, 3, -4);
        DUE.is("19 below 0", y.sum(1), -5);
        DUE.is("19 beyond 2", y.sum(3), NO);
        y.size(4);
        long[] due = {1, 4, 6, 4, 1};
        for (int k = 0; k <= 4; k++) {
            DUE.is("19 of four", y.sum(k), due[k]);
        }
    }

    private static void unlike() {
        MinorTables x = Due.table(3, 1, 2, 3, 4, 5, 6, 7, 8, 10);
        DUE.is("20 of 1", x.unlike(1), 9);
        // -3 -6 -3; -6 -11 -4; -3 -2 2
        DUE.is("20 of 2", x.unlike(2), 6);
        DUE.is("20 of 3", x.unlike(3), 1);
        for (int bad : new int[] {0, 4, -1, Integer.MAX_VALUE, Integer.MIN_VALUE}) {
            DUE.is("20 unlike(" + bad + ")", x.unlike(bad), -2);
        }
        DUE.is("20 nothing NOTED", x.told(5), 0);
        MinorTables y = Due.table(2, 3, 3, 3, 3);
        DUE.is("20 all alike", y.unlike(1), 1);
        DUE.is("20 one of 2", y.unlike(2), 1);
        DUE.is("20 beyond 2", y.unlike(3), -2);
        MinorTables z = Due.table(4, 2, -3, 5, 7, 11, 13, -17, 19, 23, -29, 31, 37, 41, 43, 47, -53);
        DUE.is("20 sixteen", z.unlike(1), 16);
        DUE.is("20 of four rows", z.unlike(4), 1);
        DUE.is("20 thirty-six", z.unlike(2), 36);
        DUE.is("20 of three rows", z.unlike(3), 16);
    }

    private static void may(MinorTables x, int spot, int many, int least, int greatest) {
        DUE.is("21 how many at " + spot, x.may(spot, 0), many);
        DUE.is("21 the least at " + spot, x.may(spot, 1), least);
        DUE.is("21 the greatest at " + spot, x.may(spot, 2), greatest);
    }

    private static void may() {
        MinorTables x = Due.table(2, 3, 5, 7, 12);
        may(x, 0, 97, 103, 199);
        may(x, 1, 5, 101, 105);
        may(x, 10, 7, 101, 107);
        may(x, 11, 88, 112, 199);
        DUE.is("21 the number stays", x.of(0, 0), 103);
        x.set(0, -50);
        DUE.is("21 not POSITIVE", x.told(2), 0);
        may(x, 0, 97, 103, 199);
        may(x, 1, 0, -5, -5);
        MinorTables y = Due.table(2, 1, 10, 10, 99);
        may(y, 0, 98, 102, 199);
        may(y, 11, 0, -5, -5);
        y.set(0, 99);
        may(y, 11, 98, 102, 199);
        may(y, 1, 99, 101, 199);
        y.set(10, 99);
        may(y, 1, 98, 101, 198);
        DUE.is("21 what 3", x.may(0, 3), -1);
        DUE.is("21 what -1", x.may(0, -1), -1);
        for (int none : new int[] {2, 12, 20, -1, Integer.MAX_VALUE, Integer.MIN_VALUE}) {
            DUE.is("21 may(" + none + ")", x.may(none, 0), -1);
        }
        MinorTables z = Due.table(3, 1, 1, 1, 1, 2, 3, 1, 3, 6);
        may(z, 22, 94, 106, 199);
        may(z, 2, 1, 101, 101);
        may(z, 11, 1, 102, 102);
        may(Due.table(2, -3, 1, 1, 1), 11, 0, -5, -5);
        z.minor(1, 1);
        z.may(0, 0);
        DUE.is("21 NOTED stays", z.told(5), 1);
    }
}

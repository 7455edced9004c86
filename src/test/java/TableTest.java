/** Promises 1 to 5, 9, 12 and 13: the table and what is told of it. */
public final class TableTest {
    private static final Due DUE = new Due("TableTest");

    public static void main(String[] args) {
        newObject();
        size();
        set();
        turnAndFlip();
        vector();
        of();
        told();
        DUE.end();
    }

    private static void looksLike(String promise, MinorTables x, int... numbers) {
        int n = x.told(0);
        DUE.is(promise + " how many numbers", n * n, numbers.length);
        for (int p = 0; p < numbers.length; p++) {
            DUE.is(promise + " number " + p, x.of(0, 10 * (p / n) + p % n), numbers[p] + 100);
        }
    }

    private static void newObject() {
        MinorTables x = new MinorTables();
        looksLike("1", x, 1, 0, 0, 0, 1, 0, 0, 0, 1);
        DUE.is("1 chips", x.told(1), 0);
        DUE.is("1 noted", x.told(5), 0);
        for (int i = 0; i < 3; i++) {
            DUE.is("1 vector", x.of(1, i), 100);
        }
        for (int what = 0; what < 4; what++) {
            DUE.is("1 count", x.count(what), 0);
        }
        for (int tape = 0; tape < 6; tape++) {
            DUE.is("1 tape", x.item(tape, 0, 0), -11);
        }
        DUE.is("1 image", x.undo(), -3);
    }

    private static void size() {
        MinorTables x = Due.table(2, 5, 6, 7, 8);
        x.chip(2, 0, 3);
        x.vector(1, 4);
        x.minor(1, 1);
        x.see(3, 3, 4);
        x.event(0, 11);
        x.book(10, 7);
        for (int bad : new int[] {1, 5, 0, -1, Integer.MAX_VALUE, Integer.MIN_VALUE}) {
            DUE.is("2 size(" + bad + ")", x.size(bad), -2);
        }
        looksLike("2 refused", x, 5, 6, 7, 8);
        DUE.is("2 refused leaves NOTED", x.told(5), 1);
        DUE.is("2 same size", x.size(2), 2);
        looksLike("2 same size", x, 1, 0, 0, 1);
        DUE.is("2 chips", x.told(1), 0);
        DUE.is("2 vector", x.of(1, 1), 100);
        DUE.is("2 noted", x.told(5), 0);
        DUE.is("2 seen stays", x.count(0), 1);
        DUE.is("2 events stay", x.count(1), 1);
        DUE.is("2 book stays", x.count(2), 1);
        DUE.is("2 size(4)", x.size(4), 2);
        looksLike("2 four", x, 1, 0, 0, 0, 0, 1, 0, 0, 0, 0, 1, 0, 0, 0, 0, 1);
        DUE.is("2 size(3)", x.size(3), 4);
        looksLike("2 three", x, 1, 0, 0, 0, 1, 0, 0, 0, 1);
        DUE.is("2 told", x.told(0), 3);
    }

    private static void set() {
        MinorTables x = new MinorTables();
        DUE.is("3 was 1", x.set(0, -99), 101);
        DUE.is("3 was -99", x.set(0, 99), 1);
        DUE.is("3 was 99", x.set(0, 7), 199);
        DUE.is("3 row 1, column 2", x.set(12, 5), 100);
        looksLike("3", x, 7, 0, 0, 0, 1, 5, 0, 0, 1);
        x.minor(1, 1);
        for (int none : new int[] {3, 9, 13, 30, 33, -1, -10, -11, 100, Integer.MAX_VALUE, Integer.MIN_VALUE}) {
            DUE.is("3 set(" + none + ")", x.set(none, 1), -1);
        }
        DUE.is("3 NONE ahead of BAD", x.set(3, 100), -1);
        DUE.is("3 above", x.set(0, 100), -2);
        DUE.is("3 below", x.set(0, -100), -2);
        DUE.is("3 refused leaves NOTED", x.told(5), 1);
        DUE.is("3 same number", x.set(0, 7), 107);
        DUE.is("3 same number, nothing NOTED", x.told(5), 0);
    }

    private static void turnAndFlip() {
        MinorTables x = Due.table(3, 1, 2, 3, 4, 5, 6, 7, 8, 9);
        x.chip(0, 0, 2);
        x.vector(0, 5);
        x.minor(1, 1);
        DUE.is("4 turn", x.turn(), 1);
        looksLike("4", x, 1, 4, 7, 2, 5, 8, 3, 6, 9);
        DUE.is("4 noted", x.told(5), 0);
        x.minor(1, 1);
        DUE.is("5 flip", x.flip(), 1);
        looksLike("5", x, 9, 6, 3, 8, 5, 2, 7, 4, 1);
        DUE.is("5 noted", x.told(5), 0);
        DUE.is("5 vector stays", x.of(1, 0), 105);
        DUE.is("5 chips stay", x.told(1), 1);
        MinorTables y = Due.table(2, 1, 2, 3, 4);
        y.turn();
        looksLike("4 two", y, 1, 3, 2, 4);
        y.flip();
        looksLike("5 two", y, 4, 2, 3, 1);
        MinorTables z = Due.table(4, 1, 2, 3, 4, 5, 6, 7, 8, 9, 10, 11, 12, 13, 14, 15, 16);
        z.flip();
        looksLike("5 four", z, 16, 15, 14, 13, 12, 11, 10, 9, 8, 7, 6, 5, 4, 3, 2, 1);
        z.turn();
        looksLike("4 four", z, 16, 12, 8, 4, 15, 11, 7, 3, 14, 10, 6, 2, 13, 9, 5, 1);
    }

    private static void vector() {
        MinorTables x = new MinorTables();
        x.minor(1, 1);
        DUE.is("9 was 0", x.vector(2, -9), 100);
        DUE.is("9 was -9", x.vector(2, 9), 91);
        DUE.is("9 was 9", x.vector(2, 3), 109);
        DUE.is("9 leaves NOTED", x.told(5), 1);
        for (int none : new int[] {3, 4, -1, Integer.MAX_VALUE, Integer.MIN_VALUE}) {
            DUE.is("9 vector(" + none + ")", x.vector(none, 0), -1);
        }
        DUE.is("9 NONE ahead of BAD", x.vector(3, 10), -1);
        DUE.is("9 above", x.vector(0, 10), -2);
        DUE.is("9 below", x.vector(0, -10), -2);
        DUE.is("9 stays", x.of(1, 2), 103);
        x.size(4);
        DUE.is("9 four", x.vector(3, 1), 100);
    }

    private static void of() {
        MinorTables x = Due.table(2, -99, 99, 3, 4);
        x.vector(1, -9);
        DUE.is("12 least", x.of(0, 0), 1);
        DUE.is("12 greatest", x.of(0, 1), 199);
        DUE.is("12 vector", x.of(1, 1), 91);
        for (int none : new int[] {2, 12, 20, 22, -1, Integer.MAX_VALUE, Integer.MIN_VALUE}) {
            DUE.is("12 of(0, " + none + ")", x.of(0, none), -1);
        }
        DUE.is("12 spot of the vector", x.of(1, 10), -1);
        DUE.is("12 vector beyond", x.of(1, 2), -1);
        DUE.is("12 vector ahead", x.of(1, -1), -1);
        DUE.is("12 what", x.of(2, 0), -1);
        DUE.is("12 what below", x.of(-1, 0), -1);
    }

    private static void told() {
        MinorTables x = Due.table(2, 1, 2, 3, 7);
        DUE.is("13 n", x.told(0), 2);
        DUE.is("13 POSITIVE", x.told(2), 1);
        DUE.is("13 AMISS", x.told(3), -5);
        DUE.is("13 ABOVE", x.told(4), 5);
        x.set(11, 6);
        DUE.is("13 a minor of 0 isn't above 0", x.told(2), 0);
        DUE.is("13 AMISS behind", x.told(3), 11);
        DUE.is("13 ABOVE without it", x.told(4), 4);
        x.set(1, 0);
        DUE.is("13 AMISS first", x.told(3), 1);
        x.chip(0, 0, 1);
        DUE.is("13 chips", x.told(1), 1);
        x.minor(1, 1);
        x.minor(1, 2);
        x.minor(1, 1);
        DUE.is("13 NOTED", x.told(5), 2);
        x.told(2);
        x.told(4);
        DUE.is("13 asked, NOTED stays", x.told(5), 2);
        DUE.is("13 beyond", x.told(8), -1);
        DUE.is("13 below", x.told(-1), -1);
        changes();
    }

    private static void changes() {
        MinorTables x = Due.table(4, 1, 0, 0, 0, 0, 1, 0, 0, 0, 0, 1, 0, 0, 0, 0, 1);
        int[][] rows = {{1, -3, 2, -1, 3}, {0, 0, 0, 0, 0}, {5, 0, -5, 0, 1}, {-1, 0, 0, -1, 0}, {0, -2, 0, 2, 1},
            {1, 2, 3, 4, 0}, {-1, 1, 0, -1, 2}};
        for (int[] row : rows) {
            for (int i = 0; i < 4; i++) {
                x.vector(i, row[i]);
            }
            DUE.is("13 CHANGES", x.told(6), row[4]);
            DUE.is("13 CHANGES of the same", x.told(7), row[4]);
        }
        MinorTables y = Due.table(3, 0, 1, 0, -1, 0, 0, 0, 0, 2);
        y.vector(0, 1);
        y.vector(1, 4);
        y.vector(2, 9);
        DUE.is("13 CHANGES of the vector", y.told(6), 0);
        DUE.is("13 CHANGES of 4, -1, 18", y.told(7), 2);
        y.turn();
        DUE.is("13 CHANGES of -4, 1, 18", y.told(7), 1);
    }
}

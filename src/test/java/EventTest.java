/** Promises 29 to 32: events and what is after them, the book and where it is otherwise. */
public final class EventTest {
    private static final Due DUE = new Due("EventTest");
    private static final long NO = Long.MIN_VALUE;

    public static void main(String[] args) {
        event();
        after();
        afterInAnotherSize();
        book();
        looked();
        DUE.end();
    }

    private static void event() {
        MinorTables x = new MinorTables();
        x.minor(1, 1);
        for (int what : new int[] {4, -2, Integer.MAX_VALUE, Integer.MIN_VALUE}) {
            DUE.is("29 what " + what, x.event(what, 0), -1);
        }
        for (int n : new int[] {3, 13, 30, -1, Integer.MAX_VALUE, Integer.MIN_VALUE}) {
            DUE.is("29 more at " + n, x.event(0, n), -1);
            DUE.is("29 0 at " + n, x.event(1, n), -1);
        }
        for (int n : new int[] {2, 3, 10, -1, Integer.MAX_VALUE, Integer.MIN_VALUE}) {
            DUE.is("29 swap of " + n, x.event(2, n), -1);
        }
        for (int n : new int[] {1, -1, Integer.MAX_VALUE, Integer.MIN_VALUE}) {
            DUE.is("29 turn " + n, x.event(3, n), -2);
        }
        int[][] good = {{0, 22}, {1, 0}, {2, 0}, {2, 1}, {3, 0}, {0, 0}, {0, 0}, {1, 12}};
        for (int k = 0; k < 8; k++) {
            DUE.is("29 comes", x.event(good[k][0], good[k][1]), k + 1);
        }
        DUE.is("29 ninth", x.event(0, 0), -4);
        DUE.is("29 BAD ahead of FULL", x.event(3, 1), -2);
        DUE.is("29 NONE ahead of FULL", x.event(0, 3), -1);
        DUE.is("29 NOTED stays", x.told(5), 1);
        DUE.is("29 none then", x.event(-1, 77), 0);
        DUE.is("29 none", x.count(1), 0);
        DUE.is("29 from 1 again", x.event(3, 0), 1);
    }

    private static void after(MinorTables x, long above, long amiss, long whole) {
        DUE.is("30 ABOVE", x.after(0), above);
        DUE.is("30 AMISS", x.after(1), amiss);
        DUE.is("30 all", x.after(2), whole);
    }

    private static void after() {
        MinorTables x = Due.table(2, 1, 2, 3, 7);
        after(x, 5, -5, 1);
        x.event(0, 1);
        after(x, 4, 11, -2);
        x.event(0, 0);
        after(x, 5, -5, 5);
        x.event(2, 0);
        after(x, 4, 11, -5);
        x.event(3, 0);
        after(x, 4, 11, -5);
        x.event(2, 0);
        after(x, 5, -5, 5);
        x.event(1, 1);
        after(x, 4, 1, 14);
        x.event(1, 0);
        after(x, 2, 0, 0);
        DUE.is("30 the table stays", x.of(0, 1), 102);
        DUE.is("30 nothing NOTED", x.told(5), 0);
        DUE.is("30 what 3", x.after(3), NO);
        DUE.is("30 what -1", x.after(-1), NO);
        MinorTables y = Due.table(2, 98, 0, 0, 1);
        y.event(0, 0);
        DUE.is("30 99", y.after(2), 99);
        y.event(0, 0);
        DUE.is("30 99 at most", y.after(2), 99);
        y.event(1, 0);
        y.event(0, 0);
        DUE.is("30 one behind the other", y.after(2), 1);
        MinorTables z = Due.table(3, 1, 2, 3, 4, 5, 6, 7, 8, 10);
        z.event(2, 1);
        z.event(3, 0);
        z.event(0, 1);
        // (1 8 4; 2 8 5; 3 10 6)
        DUE.is("30 a turn changes spots", z.after(2), 48 - 50 - 8 * (12 - 15) + 4 * (20 - 24));
    }

    private static void afterInAnotherSize() {
        MinorTables x = new MinorTables();
        x.size(4);
        x.event(0, 33);
        x.event(1, 3);
        x.event(2, 2);
        x.event(2, 1);
        x.event(0, 0);
        DUE.is("30 of four", x.after(2), 4);
        x.size(3);
        DUE.is("30 of three: both rows are there", x.after(2), -2);
        x.size(2);
        DUE.is("30 of two: one of the rows isn't there", x.after(2), 2);
        DUE.is("30 events stay", x.count(1), 5);
    }

    private static void book() {
        MinorTables x = new MinorTables();
        x.minor(1, 1);
        for (int spot : new int[] {3, 13, 30, -2, Integer.MAX_VALUE, Integer.MIN_VALUE}) {
            DUE.is("31 spot " + spot, x.book(spot, 0), -1);
        }
        DUE.is("31 NONE ahead of BAD", x.book(3, 100), -1);
        DUE.is("31 above", x.book(0, 100), -2);
        DUE.is("31 below", x.book(0, -100), -2);
        for (int k = 1; k <= 8; k++) {
            DUE.is("31 comes", x.book(22, k % 2 == 0 ? 99 : -99), k);
        }
        DUE.is("31 ninth", x.book(0, 0), -4);
        DUE.is("31 BAD ahead of FULL", x.book(0, 100), -2);
        DUE.is("31 NONE ahead of FULL", x.book(3, 0), -1);
        DUE.is("31 NOTED stays", x.told(5), 1);
        DUE.is("31 empty then", x.book(-1, 1000), 0);
        DUE.is("31 empty", x.count(2), 0);
        DUE.is("31 from 1 again", x.book(0, 0), 1);
    }

    private static void looked() {
        MinorTables x = Due.table(3, 1, 2, 3, 4, 5, 6, 7, 8, 9);
        DUE.is("32 empty", x.looked(), -5);
        x.book(0, 1);
        x.book(12, 6);
        DUE.is("32 as told", x.looked(), -5);
        x.book(21, 7);
        DUE.is("32 the third", x.looked(), 2);
        x.set(12, 5);
        DUE.is("32 the second", x.looked(), 1);
        x.set(0, -1);
        DUE.is("32 the first", x.looked(), 0);
        x.book(-1, 0);
        x.book(0, 1);
        x.book(20, 0);
        x.size(2);
        DUE.is("32 a spot that isn't there", x.looked(), 1);
        x.size(3);
        DUE.is("32 there again", x.looked(), -5);
    }
}

/** Promises 33 and 36 to 40: tapes, and the rows of numbers that are judged. */
public final class TapeTest {
    private static final Due DUE = new Due("TapeTest");
    private static final long NO = Long.MIN_VALUE;
    private static final int LEAST = Integer.MIN_VALUE, MOST = Integer.MAX_VALUE;

    public static void main(String[] args) {
        judge();
        count();
        tape();
        item();
        peek();
        shift();
        shiftInside();
        DUE.end();
    }

    private static void judge() {
        MinorTables x = Due.table(2, 1, 2, -3, 4);
        x.minor(1, 1);
        for (int none : new int[] {-1, 6, LEAST, MOST}) {
            DUE.is("33 tape " + none, x.judge(none, 0), -1);
        }
        DUE.is("33 nothing", x.judge(0, 0), 100);
        DUE.is("33 nothing, below 0", x.judge(0, -1), 100);
        for (int sort : new int[] {0, 2, 3, 4}) {
            x.tape(1, sort, 4);
            DUE.is("33 sort " + sort, x.judge(1, 0), -12);
            DUE.is("33 sort ahead of the place", x.judge(1, -1), -12);
            DUE.is("33 sort ahead of the end", x.judge(1, 9), -12);
        }
        x.tape(0, 1, 7);
        int[] items = {1, 2, -3, 1, 2, -3, 4};
        for (int i = 0; i < 7; i++) {
            x.item(0, i, items[i]);
        }
        DUE.is("33 the last is otherwise", x.judge(0, 0), 11);
        DUE.is("33 the first is otherwise", x.judge(0, 1), 0);
        DUE.is("33 none is otherwise", x.judge(0, 3), -5);
        DUE.is("33 otherwise ahead of the end", x.judge(0, 5), 0);
        DUE.is("33 at the end", x.judge(0, 7), 100);
        for (int place : new int[] {8, -1, LEAST, MOST, MOST - 1}) {
            DUE.is("33 place " + place, x.judge(0, place), 100);
        }
        x.tape(2, 1, 3);
        x.item(2, 0, 1);
        x.item(2, 1, 2);
        x.item(2, 2, -3);
        DUE.is("33 three looked at", x.judge(2, 0), 103);
        x.item(2, 2, 3);
        DUE.is("33 row 1, column 0", x.judge(2, 0), 10);
        x.tape(2, 1, 0);
        DUE.is("33 a row of 0", x.judge(2, 0), 100);
        DUE.is("33 NOTED stays", x.told(5), 1);
        MinorTables y = new MinorTables();
        y.size(4);
        y.tape(5, 1, 15);
        for (int i = 0; i < 15; i += 5) {
            y.item(5, i, 1);
        }
        DUE.is("33 fifteen looked at", y.judge(5, 0), 115);
        y.item(5, 14, 1);
        DUE.is("33 row 3, column 2", y.judge(5, 0), 32);
    }

    private static void count() {
        MinorTables x = new MinorTables();
        x.see(1, 1, 1);
        for (int k = 0; k < 2; k++) {
            x.event(0, 0);
        }
        for (int k = 0; k < 3; k++) {
            x.book(0, 0);
        }
        for (int k = 0; k < 4; k++) {
            x.feed('z');
        }
        for (int what = 0; what < 4; what++) {
            DUE.is("36 count", x.count(what), what + 1);
        }
        for (int bad : new int[] {4, -1, LEAST, MOST}) {
            DUE.is("36 count(" + bad + ")", x.count(bad), -2);
        }
    }

    private static void tape() {
        MinorTables x = new MinorTables();
        for (int none : new int[] {-1, 6, LEAST, MOST}) {
            DUE.is("37 tape " + none, x.tape(none, 0, 1), -1);
            DUE.is("37 NONE ahead of BAD", x.tape(none, 9, 1), -1);
            DUE.is("37 NONE ahead of all", x.tape(none, -1, 1), -1);
        }
        for (int bad : new int[] {5, -2, LEAST, MOST}) {
            DUE.is("37 sort " + bad, x.tape(0, bad, 1), -2);
            DUE.is("37 BAD ahead of SIZE", x.tape(0, bad, -1), -2);
        }
        DUE.is("37 n 61", x.tape(0, 0, 61), -2);
        DUE.is("37 far above", x.tape(0, 0, MOST), -2);
        DUE.is("37 n -1", x.tape(0, 0, -1), -14);
        DUE.is("37 far below", x.tape(0, 4, LEAST), -14);
        DUE.is("37 refused: nothing", x.item(0, 0, 0), -11);
        for (int tape = 0; tape < 6; tape++) {
            DUE.is("37 a row of 60", x.tape(tape, tape % 5, 60), 1);
            DUE.is("37 its last", x.item(tape, 59, 1), 1);
            DUE.is("37 none behind it", x.item(tape, 60, 1), -13);
        }
        DUE.is("37 refused leaves the row", x.tape(0, 0, 61), -2);
        DUE.is("37 refused leaves the row", x.peek(0, 59), 1);
        DUE.is("37 anew", x.tape(0, 3, 60), 1);
        DUE.is("37 all 0", x.peek(0, 59), 0);
        DUE.is("37 a row of 0", x.tape(1, 0, 0), 1);
        DUE.is("37 a row of 0 has no place", x.item(1, 0, 0), -13);
        DUE.is("37 holds nothing, n doesn't matter", x.tape(0, -1, -5), 1);
        DUE.is("37 holds nothing", x.item(0, 0, 0), -11);
        DUE.is("37 nothing again", x.tape(0, -1, 100), 1);
        x.size(2);
        DUE.is("37 size() leaves the tapes", x.peek(2, 59), 1);
    }

    private static void item() {
        MinorTables x = new MinorTables();
        for (int none : new int[] {-1, 6, LEAST, MOST}) {
            DUE.is("38 tape " + none, x.item(none, 0, 1), -1);
        }
        DUE.is("38 nothing ahead of the place", x.item(0, -1, 1), -11);
        long[] given = {300, -129, 70000, -40000, 1L << 40, (1L << 31) + 5, Long.MIN_VALUE, -1, 128, 32768};
        for (int sort = 0; sort < 5; sort++) {
            x.tape(sort, sort, 2);
            for (int place : new int[] {-1, 2, LEAST, MOST}) {
                DUE.is("38 place " + place, x.item(sort, place, 1), -13);
            }
            for (long v : given) {
                long[] due = {(byte) v, (short) v, (int) v, v, 1};
                DUE.is("38 item", x.item(sort, 1, v), 1);
                DUE.is("38 sort " + sort + " of " + v, x.peek(sort, 1), due[sort]);
                DUE.is("38 the other stays", x.peek(sort, 0), 0);
            }
            x.item(sort, 1, 0);
            DUE.is("38 back to 0", x.peek(sort, 1), 0);
        }
        x.item(4, 0, 1L << 32);
        DUE.is("38 a boolean looks at all bits", x.peek(4, 0), 1);
    }

    private static void peek() {
        MinorTables x = new MinorTables();
        DUE.is("39 nothing", x.peek(0, 0), NO);
        x.tape(0, 3, 2);
        x.item(0, 1, 77);
        DUE.is("39 the first", x.peek(0, 0), 0);
        DUE.is("39 the second", x.peek(0, 1), 77);
        for (int none : new int[] {-1, 6, LEAST, MOST}) {
            DUE.is("39 tape " + none, x.peek(none, 0), NO);
        }
        for (int none : new int[] {-1, 2, LEAST, MOST}) {
            DUE.is("39 place " + none, x.peek(0, none), NO);
        }
    }

    private static void shift() {
        MinorTables x = new MinorTables();
        x.tape(0, 2, 4);
        x.tape(1, 2, 3);
        x.tape(2, 3, 4);
        for (int i = 0; i < 4; i++) {
            x.item(0, i, i + 1);
        }
        for (int none : new int[] {-1, 6, LEAST, MOST}) {
            DUE.is("40 from " + none, x.shift(none, 0, 3, 0, 1), -1);
            DUE.is("40 to " + none, x.shift(3, 0, none, 0, 1), -1);
        }
        DUE.is("40 from nothing", x.shift(3, 9, 0, 0, 1), -11);
        DUE.is("40 to nothing", x.shift(0, 0, 3, 0, -1), -11);
        DUE.is("40 CAST ahead of PLACE", x.shift(0, -1, 2, 9, 1), -12);
        int[][] places = {{-1, 0, 1}, {0, -1, 1}, {0, 0, -1}, {0, 0, 4}, {2, 0, 3}, {0, 2, 2}, {5, 0, 0}, {0, 4, 0},
            {MOST, 0, 1}, {0, MOST, 1}, {1, 1, MOST}, {LEAST, 0, 0}, {0, LEAST, 0}, {0, 0, LEAST}, {MOST, MOST, MOST}};
        for (int[] p : places) {
            DUE.is("40 place", x.shift(0, p[0], 1, p[1], p[2]), -13);
        }
        for (int i = 0; i < 3; i++) {
            DUE.is("40 refused leaves it", x.peek(1, i), 0);
        }
        DUE.is("40 two", x.shift(0, 2, 1, 1, 2), 2);
        long[] due = {0, 3, 4};
        for (int i = 0; i < 3; i++) {
            DUE.is("40 came", x.peek(1, i), due[i]);
        }
        DUE.is("40 from stays", x.peek(0, 2), 3);
        DUE.is("40 none at the ends", x.shift(0, 4, 1, 3, 0), 0);
        DUE.is("40 all", x.shift(1, 0, 0, 1, 3), 3);
        DUE.is("40 all came", x.peek(0, 3), 4);
        DUE.is("40 the first stays", x.peek(0, 0), 1);
        x.tape(4, 0, 0);
        x.tape(5, 0, 0);
        DUE.is("40 rows of 0", x.shift(4, 0, 5, 0, 0), 0);
    }

    private static void shiftInside() {
        int[][] shifts = {{0, 2, 4}, {2, 0, 4}, {1, 1, 3}, {0, 1, 5}, {1, 0, 5}};
        for (int[] s : shifts) {
            MinorTables x = new MinorTables();
            x.tape(0, 0, 6);
            long[] due = new long[6];
            for (int i = 0; i < 6; i++) {
                x.item(0, i, i + 1);
                due[i] = i + 1;
            }
            for (int i = 0; i < s[2]; i++) {
                due[s[1] + i] = s[0] + i + 1;
            }
            DUE.is("40 inside", x.shift(0, s[0], 0, s[1], s[2]), s[2]);
            for (int i = 0; i < 6; i++) {
                DUE.is("40 as they were before", x.peek(0, i), due[i]);
            }
        }
    }
}

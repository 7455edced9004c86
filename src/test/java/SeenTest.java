/** Promises 25 to 28: what is seen and fits, odds and means. */
public final class SeenTest {
    private static final Due DUE = new Due("SeenTest");
    private static final long NO = Long.MIN_VALUE;

    public static void main(String[] args) {
        see();
        fits();
        fitsBeyondTheSize();
        odds();
        mean();
        DUE.end();
    }

    private static void see() {
        MinorTables x = new MinorTables();
        x.minor(1, 1);
        int[][] none = {{0, 0}, {1, 3}, {8, 8}, {-2, 1}, {-1 << 31, 1}, {7, 15}, {1, -1}, {1, 0}};
        for (int[] m : none) {
            DUE.is("25 no MINOR", x.see(m[0], m[1], 0), -1);
        }
        DUE.is("25 NONE ahead of BAD", x.see(1, 3, 100000), -1);
        DUE.is("25 above", x.see(1, 1, 100000), -2);
        DUE.is("25 below", x.see(1, 1, -100000), -2);
        DUE.is("25 far", x.see(1, 1, Integer.MIN_VALUE), -2);
        DUE.is("25 greatest", x.see(7, 7, 99999), 1);
        DUE.is("25 least", x.see(1, 4, -99999), 2);
        DUE.is("25 the same again", x.see(1, 4, -99999), 3);
        DUE.is("25 fourth", x.see(3, 5, 0), 4);
        DUE.is("25 fifth", x.see(1, 1, 0), -4);
        DUE.is("25 BAD ahead of FULL", x.see(1, 1, 100000), -2);
        DUE.is("25 NONE ahead of FULL", x.see(1, 3, 0), -1);
        DUE.is("25 NOTED stays", x.told(5), 1);
        DUE.is("25 none then", x.see(-1, 99, 1000000), 0);
        DUE.is("25 none", x.count(0), 0);
        DUE.is("25 from 1 again", x.see(1, 1, 0), 1);
    }

    private static void fits(MinorTables x, int spot, int many, int least) {
        DUE.is("26 how many at " + spot, x.fits(spot, 0), many);
        DUE.is("26 the least at " + spot, x.fits(spot, 1), least);
    }

    private static void fits() {
        MinorTables x = Due.table(2, 2, 3, 4, 5);
        fits(x, 0, 199, 1);
        x.see(3, 3, -2);
        fits(x, 0, 1, 102);
        fits(x, 11, 1, 105);
        x.see(3, 3, -2);
        fits(x, 1, 1, 103);
        x.see(2, 2, 5);
        fits(x, 0, 1, 102);
        x.set(11, 6);
        fits(x, 0, 0, 0);
        fits(x, 11, 1, 105);
        DUE.is("26 the number stays", x.of(0, 11), 106);
        x.see(-1, 0, 0);
        x.see(1, 1, 2);
        fits(x, 11, 199, 1);
        x.see(1, 1, 3);
        fits(x, 11, 0, 0);
        fits(x, 0, 0, 0);
        x.see(-1, 0, 0);
        x.see(1, 1, -99);
        fits(x, 0, 1, 1);
        x.see(-1, 0, 0);
        x.see(1, 1, 99);
        fits(x, 0, 1, 199);
        x.see(-1, 0, 0);
        x.see(1, 1, 100);
        fits(x, 0, 0, 0);
        x.see(-1, 0, 0);
        x.see(3, 3, 7);
        x.set(11, 2);
        // 2 times the number is odd by none
        x.set(1, 0);
        fits(x, 0, 0, 0);
        x.set(11, 0);
        x.set(1, 7);
        x.set(10, -1);
        fits(x, 0, 199, 1);
        for (int none : new int[] {2, 12, 20, -1, Integer.MAX_VALUE, Integer.MIN_VALUE}) {
            DUE.is("26 fits(" + none + ")", x.fits(none, 0), -1);
        }
        DUE.is("26 what 2", x.fits(0, 2), -1);
        DUE.is("26 what -1", x.fits(0, -1), -1);
    }

    private static void fitsBeyondTheSize() {
        MinorTables x = new MinorTables();
        x.see(4, 4, 1);
        fits(x, 0, 199, 1);
        x.size(2);
        fits(x, 0, 0, 0);
        x.size(3);
        fits(x, 0, 199, 1);
        x.minor(1, 1);
        x.fits(0, 0);
        DUE.is("26 NOTED stays", x.told(5), 1);
    }

    private static void odds(MinorTables x, int k, long above, long below) {
        DUE.is("27 above of " + k, x.odds(k, 0), above);
        DUE.is("27 below of " + k, x.odds(k, 1), below);
    }

    private static void odds() {
        MinorTables x = new MinorTables();
        odds(x, 1, 1, 3);
        odds(x, 2, 1, 3);
        odds(x, 3, 1, 1);
        x.set(0, -1);
        odds(x, 1, 2, 9);
        odds(x, 2, 1, 9);
        odds(x, 3, 0, 1);
        for (int none : new int[] {0, 4, -1, Integer.MAX_VALUE, Integer.MIN_VALUE}) {
            DUE.is("27 odds(" + none + ")", x.odds(none, 0), NO);
        }
        DUE.is("27 part 2", x.odds(1, 2), NO);
        DUE.is("27 part -1", x.odds(1, -1), NO);
        MinorTables y = Due.table(4, 1, 2, 3, 4, 5, 6, 7, 8, 9, 10, 11, 12, 13, 14, 15, 16);
        odds(y, 1, 1, 1);
        odds(y, 2, 0, 1);
        odds(y, 4, 0, 1);
        y.flip();
        y.set(0, 17);
        odds(y, 2, 1, 18);
        y.size(4);
        odds(y, 2, 1, 6);
        odds(y, 3, 1, 4);
        DUE.is("27 nothing NOTED", y.told(5), 0);
    }

    private static void mean(MinorTables x, long above, long below) {
        DUE.is("28 above", x.mean(0), above);
        DUE.is("28 below", x.mean(1), below);
    }

    private static void mean() {
        MinorTables x = new MinorTables();
        mean(x, 1, 3);
        x.set(0, -2);
        mean(x, 0, 1);
        x.set(0, -8);
        mean(x, -2, 3);
        x.set(0, 0);
        mean(x, 2, 9);
        x.set(0, -11);
        mean(x, -1, 1);
        DUE.is("28 part 2", x.mean(2), NO);
        DUE.is("28 part -1", x.mean(-1), NO);
        mean(Due.table(2, 1, 2, 3, 4), 5, 2);
        mean(Due.table(4, 9, 0, 0, 0, 0, 0, 0, 0, 0, 0, 0, 0, 0, 0, 0, 0), 9, 16);
        mean(Due.table(2, -99, -99, -99, -99), -99, 1);
    }
}

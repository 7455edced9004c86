/** Promises 25 to 28: what is seen and fits, odds and means, one test for each sentence. */
final class EdgesOfSeen {
    private static final int LEAST = Due.LEAST, MOST = Due.MOST;

    private EdgesOfSeen() {
    }

    // ---- Promise 25: see

    @Sentence(promise = 25, words = "NONE: no MINOR;")
    static void seeOfNoMinor(Due due) {
        for (int n = 2; n <= 4; n++) {
            for (int[] m : Due.noMinors(n)) {
                if (m[0] != -1) {
                    due.is("see(" + m[0] + ", " + m[1] + ", 0) of " + n, Due.sized(n).see(m[0], m[1], 0), -1);
                }
            }
        }
    }

    @Sentence(promise = 25, words = {"BAD: v;", "SEEN told by hand: ROWS, COLUMNS of a MINOR, what it was (-99999 .. 99999;"})
    static void seeOfANumberBeyond(Due due) {
        for (int v : new int[] {100000, -100000, MOST, LEAST}) {
            due.is("see(1, 1, " + v + ")", new MinorTables().see(1, 1, v), -2);
        }
        for (int v : new int[] {99999, -99999, 0}) {
            due.is("see(1, 1, " + v + ")", new MinorTables().see(1, 1, v), 1);
        }
    }

    @Sentence(promise = 25, words = {"What is SEEN comes: how many there are", "FULL: 4.", "4 rows at most)"})
    static void seeOfTheFifth(Due due) {
        MinorTables x = new MinorTables();
        due.is("the first", x.see(7, 7, 99999), 1);
        due.is("the second", x.see(1, 4, -99999), 2);
        due.is("the same again", x.see(1, 4, -99999), 3);
        due.is("the fourth", x.see(3, 5, 0), 4);
        due.is("the fifth", x.see(1, 1, 1), -4);
        due.is("count(0)", x.count(0), 4);
    }

    @Sentence(promise = 25, words = "(rows -1: none then, 0, whatever the rest is).")
    static void seeOfRowsBelowNoughtByOne(Due due) {
        int[][] rest = {{0, 0}, {-1, 0}, {99, 100000}, {1, -100000}, {LEAST, MOST}};
        for (int[] r : rest) {
            MinorTables x = new MinorTables();
            due.is("see(-1, ..) of none", x.see(-1, r[0], r[1]), 0);
            for (int k = 0; k < 4; k++) {
                x.see(1, 1, 77);
            }
            due.is("see(-1, ..) of four", x.see(-1, r[0], r[1]), 0);
            due.is("count(0)", x.count(0), 0);
            due.is("all fit", x.fits(0, 0), 199);
            due.is("the first again", x.see(1, 1, 1), 1);
        }
    }

    @Sentence(promise = 25, words = "the first that a call's words name.")
    static void seeNamesItsRefusalsInOrder(Due due) {
        MinorTables x = new MinorTables();
        due.is("no MINOR, bad v", x.see(1, 3, 100000), -1);
        for (int k = 0; k < 4; k++) {
            x.see(1, 1, 1);
        }
        due.is("no MINOR, full", x.see(8, 8, 0), -1);
        due.is("bad v, full", x.see(1, 1, -100000), -2);
    }

    @Sentence(promise = 25, words = {"What is answered so changes nothing", "What is refused leaves NOTED"})
    static void seeThatIsRefusedChangesNothing(Due due) {
        MinorTables x = Look.full();
        Look.staysBy(due, x, y -> y.see(1, 3, 0), y -> y.see(-2, 1, 0), y -> y.see(1, 1, 100000));
        for (int k = 1; k < 4; k++) {
            x.see(1, 1, 1);
        }
        Look.staysBy(due, x, y -> y.see(2, 2, 9));
    }

    @Sentence(promise = 25, words = "What is SEEN comes")
    static void seeNotesNothing(Due due) {
        MinorTables x = new MinorTables();
        x.minor(1, 1);
        x.see(3, 3, 1);
        due.is("told(5)", x.told(5), 1);
        due.tableIs("as it was", x, 1, 0, 0, 0, 1, 0, 0, 0, 1);
    }

    // ---- Promise 26: fits

    private static void fitsIs(Due due, String what, MinorTables x, int spot, int many, int least) {
        due.is(what + ", how many", x.fits(spot, 0), many);
        due.is(what + ", the least", x.fits(spot, 1), least);
    }

    private static MinorTables seen(MinorTables x, int... told) {
        for (int k = 0; k + 2 < told.length; k += 3) {
            x.see(told[k], told[k + 1], told[k + 2]);
        }
        return x;
    }

    @Sentence(promise = 26, words = "NONE: spot, what.")
    static void fitsOfNoSpotOrWhat(Due due) {
        for (int n = 2; n <= 4; n++) {
            for (int spot : Due.noSpots(n)) {
                due.is("fits(" + spot + ", 0) of " + n, Due.sized(n).fits(spot, 0), -1);
            }
        }
        for (int what : new int[] {-1, 2, 3, LEAST, MOST}) {
            due.is("fits(0, " + what + ")", new MinorTables().fits(0, what), -1);
        }
    }

    @Sentence(promise = 26, words = "With nothing SEEN all 199 fit.")
    static void fitsWithNothingSeen(Due due) {
        for (int n = 2; n <= 4; n++) {
            fitsIs(due, "of " + n, Due.sized(n), 11 * (n - 1), 199, 1);
        }
        MinorTables x = seen(new MinorTables(), 1, 1, 5);
        x.see(-1, 0, 0);
        fitsIs(due, "nothing any more", x, 0, 199, 1);
    }

    @Sentence(promise = 26, words = {"FITS of a SPOT: how many numbers -99 .. 99 there are by which, were it there alone, all of SEEN"
        + " would be so; 100 more than the least of these", "FITS: what 0 how many, 1 100 more than the least (0)."})
    static void fitsOfTheLeastAndTheGreatest(Due due) {
        fitsIs(due, "-99", seen(new MinorTables(), 1, 1, -99), 0, 1, 1);
        fitsIs(due, "99", seen(new MinorTables(), 1, 1, 99), 0, 1, 199);
        fitsIs(due, "0", seen(new MinorTables(), 1, 1, 0), 0, 1, 100);
        fitsIs(due, "the last SPOT of four", seen(Due.sized(4), 15, 15, 42), 33, 1, 142);
    }

    @Sentence(promise = 26, words = "(0: there is none)")
    static void fitsOfNone(Due due) {
        fitsIs(due, "-100", seen(new MinorTables(), 1, 1, -100), 0, 0, 0);
        fitsIs(due, "100", seen(new MinorTables(), 1, 1, 100), 0, 0, 0);
        fitsIs(due, "two by three is never 7", seen(Due.table(2, 1, 0, 0, 2), 3, 3, 7), 0, 0, 0);
        fitsIs(due, "another number is otherwise", seen(new MinorTables(), 1, 1, 5), 11, 0, 0);
    }

    @Sentence(promise = 26, words = "were it there alone, all of SEEN would be so")
    static void fitsOfAllThatIsSeen(Due due) {
        MinorTables x = seen(Due.table(2, 50, 3, 4, 5), 3, 3, -2);
        fitsIs(due, "one", x, 0, 1, 102);
        seen(x, 1, 1, 2);
        fitsIs(due, "two that agree", x, 0, 1, 102);
        seen(x, 2, 2, 5);
        fitsIs(due, "one that it doesn't touch", x, 0, 1, 102);
        seen(x, 1, 1, 3);
        fitsIs(due, "the fourth doesn't agree", x, 0, 0, 0);
        MinorTables y = seen(Due.table(2, 50, 3, 4, 5), 1, 1, 3, 3, 3, -2);
        fitsIs(due, "the first doesn't agree", y, 0, 0, 0);
        fitsIs(due, "all 199, where it is so without it", seen(Due.table(2, 1, 2, 3, 4), 1, 1, 1, 1, 2, 2), 11, 199, 1);
        fitsIs(due, "times 0", seen(Due.table(2, 1, 7, -1, 0), 3, 3, 7), 0, 199, 1);
    }

    @Sentence(promise = 26, words = "(What is SEEN of a MINOR that isn't there any more is not so.)")
    static void fitsOfAMinorThatIsNotThere(Due due) {
        MinorTables x = seen(Due.sized(4), 8, 8, 1);
        fitsIs(due, "it is there", x, 0, 199, 1);
        x.size(3);
        fitsIs(due, "its row and column aren't", x, 0, 0, 0);
        x.size(4);
        fitsIs(due, "there again", x, 0, 199, 1);
        MinorTables row = seen(new MinorTables(), 4, 1, 0);
        row.size(2);
        fitsIs(due, "its row isn't", row, 0, 0, 0);
        MinorTables column = seen(new MinorTables(), 1, 4, 0);
        column.size(2);
        fitsIs(due, "its column isn't", column, 0, 0, 0);
    }

    @Sentence(promise = 26, words = "what is asked changes nothing")
    static void fitsChangesNothing(Due due) {
        Look.staysBy(due, Look.full(), x -> x.fits(0, 0), x -> x.fits(12, 1), x -> x.fits(3, 0), x -> x.fits(0, 2));
    }

    // ---- Promise 27: odds

    private static void oddsIs(Due due, MinorTables x, int k, long above, long below) {
        due.is("above of " + k, x.odds(k, 0), above);
        due.is("below of " + k, x.odds(k, 1), below);
    }

    @Sentence(promise = 27, words = "NO: k, part.")
    static void oddsOfNoSuchKOrPart(Due due) {
        for (int n = 2; n <= 4; n++) {
            for (int k : new int[] {0, -1, n + 1, 5, 32, LEAST, MOST}) {
                due.is("odds(" + k + ", 0) of " + n, Due.sized(n).odds(k, 0), Due.NO);
            }
        }
        for (int part : new int[] {-1, 2, 3, LEAST, MOST}) {
            due.is("odds(1, " + part + ")", new MinorTables().odds(1, part), Due.NO);
        }
    }

    @Sentence(promise = 27, words = {"ODDS; part 0 above, 1 below the line.", "ODDS of k (1 .. n): MINORS of k rows being alike likely,"
        + " how likely one is above 0: a fraction in lowest terms."})
    static void oddsInLowestTerms(Due due) {
        MinorTables x = new MinorTables();
        oddsIs(due, x, 1, 1, 3);
        oddsIs(due, x, 2, 1, 3);
        oddsIs(due, x, 3, 1, 1);
        MinorTables y = Due.sized(4);
        oddsIs(due, y, 1, 1, 4);
        oddsIs(due, y, 2, 1, 6);
        oddsIs(due, y, 3, 1, 4);
        oddsIs(due, y, 4, 1, 1);
        oddsIs(due, Due.table(2, 1, 2, 0, -4), 1, 1, 2);
        oddsIs(due, Due.table(3, 5, 1, 0, 0, 0, 0, 0, 0, 0), 1, 2, 9);
    }

    @Sentence(promise = 27, words = "how likely one is above 0")
    static void oddsOfNoneAndOfAll(Due due) {
        for (int n = 2; n <= 4; n++) {
            MinorTables x = Due.sized(n);
            for (int i = 0; i < n; i++) {
                x.set(11 * i, 0);
            }
            for (int k = 1; k <= n; k++) {
                oddsIs(due, x, k, 0, 1);
            }
        }
        MinorTables all = Due.table(4, 1, 1, 1, 1, 1, 2, 3, 4, 1, 3, 6, 10, 1, 4, 10, 20);
        for (int k = 1; k <= 4; k++) {
            oddsIs(due, all, k, 1, 1);
        }
        oddsIs(due, Due.table(2, -1, -2, -3, -4), 1, 0, 1);
    }

    @Sentence(promise = 27, words = "what is asked changes nothing")
    static void oddsChangesNothing(Due due) {
        Look.staysBy(due, Look.full(), x -> x.odds(1, 0), x -> x.odds(3, 1), x -> x.odds(0, 0), x -> x.odds(1, 2));
    }

    // ---- Promise 28: mean

    private static void meanIs(Due due, MinorTables x, long above, long below) {
        due.is("above", x.mean(0), above);
        due.is("below", x.mean(1), below);
    }

    @Sentence(promise = 28, words = "NO: part.")
    static void meanOfNoSuchPart(Due due) {
        for (int part : new int[] {-1, 2, 3, LEAST, MOST}) {
            due.is("mean(" + part + ")", new MinorTables().mean(part), Due.NO);
        }
    }

    @Sentence(promise = 28, words = {"MEAN; part likewise.", "MEAN: all numbers of THE TABLE, together, by n n: a fraction in lowest"
        + " terms"})
    static void meanInLowestTerms(Due due) {
        meanIs(due, new MinorTables(), 1, 3);
        meanIs(due, Due.sized(2), 1, 2);
        meanIs(due, Due.sized(4), 1, 4);
        meanIs(due, Due.table(2, 1, 2, 3, 5), 11, 4);
        meanIs(due, Due.table(3, 1, 2, 3, 4, 5, 6, 7, 8, 9), 5, 1);
        meanIs(due, Due.table(4, 0, 0, 0, 0, 0, 0, 0, 0, 0, 0, 0, 0, 0, 0, 0, 7), 7, 16);
        meanIs(due, Due.table(2, 99, 99, 99, 99), 99, 1);
    }

    @Sentence(promise = 28, words = "(below 0 above the line; 0 by 1)")
    static void meanBelowNoughtAndNought(Due due) {
        meanIs(due, Due.table(3, -8, 0, 0, 0, 1, 0, 0, 0, 1), -2, 3);
        meanIs(due, Due.table(2, -1, 0, 0, 0), -1, 4);
        meanIs(due, Due.table(2, -99, -99, -99, -99), -99, 1);
        meanIs(due, Due.table(2, 5, -5, 3, -3), 0, 1);
        meanIs(due, Due.table(2, 0, 0, 0, 0), 0, 1);
        meanIs(due, Due.table(4, 0, 0, 0, 0, 0, 0, 0, 0, 0, 0, 0, 0, 0, 0, 0, 0), 0, 1);
    }

    @Sentence(promise = 28, words = "what is asked changes nothing")
    static void meanChangesNothing(Due due) {
        Look.staysBy(due, Look.full(), x -> x.mean(0), x -> x.mean(1), x -> x.mean(2));
    }
}

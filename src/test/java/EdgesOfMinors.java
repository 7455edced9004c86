/** Promises 15 to 21: minors, factors, sums, unlike ones, numbers that may stand, one test for each sentence. */
final class EdgesOfMinors {
    private static final int LEAST = Due.LEAST, MOST = Due.MOST;
    private static final int[] PRIMES = {2, 3, 5, 7, 11, 13, 17, 19, 23, 29, 31, 37, 41, 43, 47, 53};
    private static final int[] PASCAL = {1, 1, 1, 1, 1, 2, 3, 4, 1, 3, 6, 10, 1, 4, 10, 20};
    private static final int[] LOPSIDED = {1, 1, 1, 2, 3, 5, 3, 6, 14};
    private static final int[] MIXED = {9, 5, 3, 1, 2, 3, 4, 5, 2, 5, 9, 14, 4, 13, 26, 53};

    private EdgesOfMinors() {
    }

    // ---- Promise 15: minor

    @Sentence(promise = 15, words = {"NO: no MINOR.", "A MINOR is told by ROWS and COLUMNS (bits each, as many of the one as of the"
        + " other, one at least)"})
    static void minorOfNoMinor(Due due) {
        for (int n = 2; n <= 4; n++) {
            for (int[] m : Due.noMinors(n)) {
                due.is("minor(" + m[0] + ", " + m[1] + ") of " + n, Due.sized(n).minor(m[0], m[1]), Due.NO);
            }
        }
    }

    @Sentence(promise = 15, words = "the determinant of what stands there, rows and columns in their order.")
    static void minorOfEachSize(Due due) {
        MinorTables x = Due.table(4, PRIMES);
        due.is("the first number", x.minor(1, 1), 2);
        due.is("the last number", x.minor(8, 8), 53);
        due.is("row 0, column 3", x.minor(1, 8), 7);
        due.is("row 3, column 0", x.minor(8, 1), 41);
        due.is("the first two", x.minor(3, 3), 2 * 13 - 3 * 11);
        due.is("the last two", x.minor(12, 12), 31 * 53 - 37 * 47);
        due.is("the outer two", x.minor(9, 9), 2 * 53 - 7 * 41);
        due.is("the first two by the last two", x.minor(3, 12), 5 * 19 - 7 * 17);
        due.is("the last two by the first two", x.minor(12, 3), 23 * 43 - 29 * 41);
        due.is("the first three", x.minor(7, 7), 70);
        due.is("the last three", x.minor(14, 14), 13 * (31 * 53 - 37 * 47) - 17 * (29 * 53 - 37 * 43) + 19 * (29 * 47 - 31 * 43));
        due.is("all four", x.minor(15, 15), 880);
    }

    @Sentence(promise = 15, words = "rows and columns in their order.")
    static void minorOfRowsChangedOver(Due due) {
        due.is("two rows changed over", Due.table(2, 0, 1, 1, 0).minor(3, 3), -1);
        due.is("three rows round", Due.table(3, 0, 1, 0, 0, 0, 1, 1, 0, 0).minor(7, 7), 1);
        due.is("four rows round", Due.table(4, 0, 1, 0, 0, 0, 0, 1, 0, 0, 0, 0, 1, 1, 0, 0, 0).minor(15, 15), -1);
        due.is("four rows, all changed over", Due.table(4, 0, 0, 0, 1, 0, 0, 1, 0, 0, 1, 0, 0, 1, 0, 0, 0).minor(15, 15), 1);
    }

    @Sentence(promise = 15, words = "a number (-99 .. 99")
    static void minorOfTheGreatestNumbers(Due due) {
        int a = 99;
        due.is("two", Due.table(2, a, -a, a, a).minor(3, 3), 2 * 99 * 99);
        due.is("two, below 0", Due.table(2, a, a, a, -a).minor(3, 3), -2 * 99 * 99);
        due.is("three", Due.table(3, a, a, a, a, -a, a, a, a, -a).minor(7, 7), 4L * 99 * 99 * 99);
        due.is("four", Due.table(4, a, a, a, a, a, -a, a, -a, a, a, -a, -a, a, -a, -a, a).minor(15, 15), 16L * 99 * 99 * 99 * 99);
        due.is("four, below 0", Due.table(4, a, -a, a, -a, a, a, a, a, a, a, -a, -a, a, -a, -a, a).minor(15, 15),
            -16L * 99 * 99 * 99 * 99);
    }

    @Sentence(promise = 15, words = "A MINOR (it is NOTED then).")
    static void minorIsNotedEvenIfNought(Due due) {
        MinorTables x = new MinorTables();
        due.is("a minor of 0", x.minor(1, 2), 0);
        due.is("noted(0)", x.noted(0), 102);
        x.minor(0, 0);
        x.minor(8, 8);
        x.minor(1, 3);
        due.is("those that are none aren't", x.told(5), 1);
    }

    @Sentence(promise = 15, words = "each once, in the order in which they were first told.")
    static void minorIsNotedOnce(Due due) {
        MinorTables x = new MinorTables();
        x.minor(3, 5);
        x.minor(5, 3);
        x.minor(3, 5);
        due.is("told(5)", x.told(5), 2);
        due.is("the first", x.noted(0), 305);
        due.is("the second", x.noted(1), 503);
    }

    @Sentence(promise = 15, words = {"what is asked changes nothing, but NOTED, where told.", "What is answered so changes nothing"})
    static void minorChangesNothingButNoted(Due due) {
        MinorTables x = Look.full();
        Look.staysBy(due, x, y -> y.minor(5, 3), y -> y.minor(1, 4), y -> y.minor(1, 3), y -> y.minor(8, 8));
        x.minor(7, 7);
        due.is("told(5)", x.told(5), 3);
        due.tableIs("as it was", x, 1, 2, 3, 4, 5, 6, 7, 8, 10);
    }

    // ---- Promise 16: noted

    @Sentence(promise = 16, words = "NONE: i below 0.")
    static void notedBelowNought(Due due) {
        MinorTables x = new MinorTables();
        for (int i : new int[] {-1, -2, LEAST}) {
            due.is("noted(" + i + ") of none", x.noted(i), -1);
        }
        x.minor(1, 1);
        due.is("noted(-1) of one", x.noted(-1), -1);
    }

    @Sentence(promise = 16, words = "-5: there are not as many.")
    static void notedBeyondThem(Due due) {
        MinorTables x = new MinorTables();
        for (int i : new int[] {0, 1, 69, MOST}) {
            due.is("noted(" + i + ") of none", x.noted(i), -5);
        }
        x.minor(1, 1);
        due.is("noted(0) of one", x.noted(0), 101);
        due.is("noted(1) of one", x.noted(1), -5);
    }

    @Sentence(promise = 16, words = "The i-th that is NOTED: 100 times ROWS, and COLUMNS, together;")
    static void notedOfAllThatThereAre(Due due) {
        MinorTables x = Due.sized(4);
        int many = 0;
        for (int rows = 15; rows > 0; rows--) {
            for (int columns = 1; columns < 16; columns++) {
                if (Integer.bitCount(rows) == Integer.bitCount(columns)) {
                    x.minor(rows, columns);
                    due.is("noted of " + rows + ", " + columns, x.noted(many), 100 * rows + columns);
                    many++;
                }
            }
        }
        due.is("all of them", many, 69);
        due.is("told(5)", x.told(5), 69);
        due.is("the first yet", x.noted(0), 1515);
        x.minor(15, 15);
        due.is("no seventieth", x.noted(69), -5);
    }

    @Sentence(promise = 16, words = "ROWS and COLUMNS of the MINORS that minor() told")
    static void notedOfNoOtherCall(Due due) {
        MinorTables x = new MinorTables();
        x.first(11);
        x.sum(2);
        x.unlike(2);
        x.productMinor(1, 1);
        x.paths(1, 1);
        x.see(1, 1, 1);
        x.odds(1, 0);
        due.is("noted(0)", x.noted(0), -5);
    }

    @Sentence(promise = 16, words = "since THE TABLE was last told anything (size(), set(), turn(), flip(), take(), a text that did"
        + " so;")
    static void notedAreGoneWhenTheTableIsTold(Due due) {
        MinorTables x = new MinorTables();
        x.minor(1, 1);
        x.minor(1, 2);
        x.set(22, 1);
        due.is("none", x.noted(0), -5);
        x.minor(2, 1);
        due.is("the first since", x.noted(0), 201);
        due.is("no more", x.noted(1), -5);
    }

    @Sentence(promise = 16, words = "what is asked changes nothing")
    static void notedChangesNothing(Due due) {
        Look.staysBy(due, Look.full(), x -> x.noted(0), x -> x.noted(2), x -> x.noted(-1));
    }

    // ---- Promise 17: first

    @Sentence(promise = 17, words = "NO: spot.")
    static void firstOfNoSpot(Due due) {
        for (int n = 2; n <= 4; n++) {
            for (int spot : Due.noSpots(n)) {
                due.is("first(" + spot + ") of " + n, Due.sized(n).first(spot), Due.NO);
            }
        }
    }

    @Sentence(promise = 17, words = {"FIRST MINOR of a SPOT.", "FIRST MINOR of a SPOT of row i, column j: that of ROWS that follow"
        + " one another, the last of them i, and as many COLUMNS that follow one another, the last of them j, of as many as"
        + " there can be (the lesser of i and j, and 1)."})
    static void firstOfEachSpot(Due due) {
        MinorTables x = Due.table(4, PRIMES);
        long[] want = {2, 3, 5, 7, 11, 2 * 13 - 3 * 11, 3 * 17 - 5 * 13, 5 * 19 - 7 * 17,
            23, 11 * 29 - 13 * 23, 70, 0, 41, 23 * 43 - 29 * 41, 0, 880};
        // Of row 2, column 3 and row 3, column 2: three rows, three columns.
        want[11] = 3 * (17 * 37 - 19 * 31) - 5 * (13 * 37 - 19 * 29) + 7 * (13 * 31 - 17 * 29);
        want[14] = 11 * (29 * 47 - 31 * 43) - 13 * (23 * 47 - 31 * 41) + 17 * (23 * 43 - 29 * 41);
        for (int p = 0; p < 16; p++) {
            due.is("first(" + Due.spot(4, p) + ")", x.first(Due.spot(4, p)), want[p]);
        }
    }

    @Sentence(promise = 17, words = "of as many as there can be (the lesser of i and j, and 1)")
    static void firstInTheFirstRowAndColumnIsTheNumber(Due due) {
        MinorTables x = Due.table(3, -1, 0, 99, 0, 5, 6, -99, 8, 9);
        due.is("first(0)", x.first(0), -1);
        due.is("first(1)", x.first(1), 0);
        due.is("first(2)", x.first(2), 99);
        due.is("first(20)", x.first(20), -99);
        due.is("first(11)", x.first(11), -5);
    }

    @Sentence(promise = 17, words = "what is asked changes nothing")
    static void firstChangesNothing(Due due) {
        Look.staysBy(due, Look.full(), x -> x.first(0), x -> x.first(22), x -> x.first(3));
    }

    // ---- Promise 18: factor

    private static void factorIs(Due due, MinorTables x, int spot, long above, long below) {
        due.is("above of " + spot, x.factor(spot, 0), above);
        due.is("below of " + spot, x.factor(spot, 1), below);
    }

    @Sentence(promise = 18, words = "NO: spot, part, it isn't POSITIVE.")
    static void factorOfNoSpotOrPart(Due due) {
        int[][] positive = {{}, {}, {1, 2, 3, 7}, LOPSIDED, PASCAL};
        for (int n = 2; n <= 4; n++) {
            for (int spot : Due.noSpots(n)) {
                due.is("factor(" + spot + ", 0) of " + n, Due.table(n, positive[n]).factor(spot, 0), Due.NO);
            }
        }
        for (int part : new int[] {-1, 2, 3, LEAST, MOST}) {
            due.is("factor(0, " + part + ")", Due.table(4, PASCAL).factor(0, part), Due.NO);
        }
    }

    @Sentence(promise = 18, words = {"it isn't POSITIVE", "FACTOR of a SPOT, if THE TABLE is POSITIVE"})
    static void factorIfNotPositive(Due due) {
        due.is("new", new MinorTables().factor(0, 0), Due.NO);
        due.is("the whole is 0", Due.table(2, 1, 2, 3, 6).factor(0, 0), Due.NO);
        due.is("the whole is below 0", Due.table(2, 1, 2, 3, 5).factor(1, 1), Due.NO);
        due.is("a number is 0", Due.table(2, 1, 0, 3, 7).factor(0, 0), Due.NO);
        due.is("three, one of two rows is 0", Due.table(3, 1, 1, 1, 1, 2, 2, 1, 3, 6).factor(0, 0), Due.NO);
        due.is("four, the whole is 0", Due.table(4, 1, 1, 1, 1, 1, 2, 3, 4, 1, 3, 6, 10, 1, 4, 10, 19).factor(0, 0), Due.NO);
    }

    @Sentence(promise = 18, words = {"FACTOR; part 0 above, 1 below the line.", "a fraction in lowest terms;"})
    static void factorInLowestTerms(Due due) {
        MinorTables x = Due.table(2, 4, 6, 10, 20);
        factorIs(due, x, 0, 4, 1);
        factorIs(due, x, 1, 3, 2);
        factorIs(due, x, 10, 5, 2);
        factorIs(due, x, 11, 5, 1);
        MinorTables y = Due.table(2, 99, 98, 97, 97);
        factorIs(due, y, 1, 98, 99);
        factorIs(due, y, 10, 97, 99);
        factorIs(due, y, 11, 97, 99);
    }

    @Sentence(promise = 18, words = {"D of rows and columns being the MINOR of these (of none: 1).", "Of row i and column j alike: D"
        + " of rows and columns 0 .. i by D of those 0 .. i - 1."})
    static void factorInTheMiddle(Due due) {
        MinorTables x = Due.table(3, LOPSIDED);
        factorIs(due, x, 0, 1, 1);
        factorIs(due, x, 11, 1, 1);
        factorIs(due, x, 22, 2, 1);
        MinorTables y = Due.table(4, MIXED);
        factorIs(due, y, 0, 9, 1);
        factorIs(due, y, 11, 17, 9);
        factorIs(due, y, 22, 25, 17);
        factorIs(due, y, 33, 254, 25);
        factorIs(due, Due.table(2, 3, 5, 7, 12), 0, 3, 1);
        factorIs(due, Due.table(2, 3, 5, 7, 12), 11, 1, 3);
    }

    @Sentence(promise = 18, words = "Of i above j: D of rows i - j .. i, columns 0 .. j times D of rows i - j - 1 .. i - 2, columns 0 .."
        + " j - 1, by (D of rows i - j .. i - 1, columns 0 .. j - 1 times D of rows i - j - 1 .. i - 1, columns 0 .. j).")
    static void factorBelowTheMiddle(Due due) {
        MinorTables x = Due.table(3, LOPSIDED);
        factorIs(due, x, 10, 2, 1);
        factorIs(due, x, 20, 3, 2);
        factorIs(due, x, 21, 3, 2);
        MinorTables y = Due.table(4, MIXED);
        factorIs(due, y, 10, 2, 9);
        factorIs(due, y, 20, 1, 1);
        factorIs(due, y, 30, 2, 1);
        factorIs(due, y, 21, 18, 17);
        factorIs(due, y, 31, 3, 2);
        factorIs(due, y, 32, 17, 50);
    }

    @Sentence(promise = 18, words = "Of i below j: as that of row j, column i of the table turned over (rows as columns).")
    static void factorAboveTheMiddle(Due due) {
        MinorTables x = Due.table(3, LOPSIDED);
        factorIs(due, x, 1, 1, 1);
        factorIs(due, x, 2, 1, 1);
        factorIs(due, x, 12, 2, 1);
        x.turn();
        factorIs(due, x, 1, 2, 1);
        factorIs(due, x, 2, 3, 2);
        factorIs(due, x, 12, 3, 2);
        factorIs(due, x, 21, 2, 1);
        MinorTables y = Due.table(4, MIXED);
        factorIs(due, y, 1, 5, 9);
        factorIs(due, y, 2, 3, 5);
        factorIs(due, y, 3, 1, 3);
        factorIs(due, y, 12, 99, 85);
        factorIs(due, y, 13, 5, 3);
        factorIs(due, y, 23, 17, 25);
        y.turn();
        factorIs(due, y, 1, 2, 9);
        factorIs(due, y, 3, 2, 1);
        factorIs(due, y, 32, 17, 25);
    }

    @Sentence(promise = 18, words = "All that follows is asked, and changes nothing.")
    static void factorChangesNothing(Due due) {
        Look.staysBy(due, Look.full(), x -> x.factor(0, 0), x -> x.factor(3, 0), x -> x.factor(0, 2));
        MinorTables positive = Due.table(3, LOPSIDED);
        Look.staysBy(due, positive, x -> x.factor(12, 0), x -> x.factor(21, 1), x -> x.factor(11, 0));
    }

    // ---- Promise 19: sum

    @Sentence(promise = 19, words = "NO: k.")
    static void sumOfNoSuchK(Due due) {
        for (int n = 2; n <= 4; n++) {
            for (int k : new int[] {-1, n + 1, 5, 32, LEAST, MOST}) {
                due.is("sum(" + k + ") of " + n, Due.sized(n).sum(k), Due.NO);
            }
        }
    }

    @Sentence(promise = 19, words = {"SUM.", "SUM of k (0 .. n): CHIEF MINORS of k rows, together (of 0: 1)."})
    static void sumOfNoughtAndOfAll(Due due) {
        for (int n = 2; n <= 4; n++) {
            due.is("sum(0) of " + n, Due.sized(n).sum(0), 1);
            due.is("sum(n) of " + n, Due.sized(n).sum(n), 1);
            due.is("sum(1) of " + n, Due.sized(n).sum(1), n);
        }
        due.is("sum(0) of noughts", Due.table(2, 0, 0, 0, 0).sum(0), 1);
        due.is("sum(2) of noughts", Due.table(2, 0, 0, 0, 0).sum(2), 0);
    }

    @Sentence(promise = 19, words = "It is CHIEF, if ROWS and COLUMNS are the same.")
    static void sumOfChiefMinorsAlone(Due due) {
        MinorTables x = Due.table(3, 1, 2, 3, 4, 5, 6, 7, 8, 10);
        due.is("sum(1)", x.sum(1), 16);
        due.is("sum(2)", x.sum(2), (5 - 8) + (10 - 21) + (50 - 48));
        due.is("sum(3)", x.sum(3), -3);
        MinorTables y = Due.table(4, -99, 99, 99, 99, 99, -99, 99, 99, 99, 99, -99, 99, 99, 99, 99, -99);
        due.is("below 0", y.sum(1), -396);
        due.is("two, all 0", y.sum(2), 0);
        due.is("three", y.sum(3), 16L * 99 * 99 * 99);
        due.is("four", y.sum(4), -16L * 99 * 99 * 99 * 99);
    }

    @Sentence(promise = 19, words = "All that follows is asked, and changes nothing.")
    static void sumChangesNothing(Due due) {
        Look.staysBy(due, Look.full(), x -> x.sum(0), x -> x.sum(2), x -> x.sum(4));
    }

    // ---- Promise 20: unlike

    @Sentence(promise = 20, words = "BAD: k.")
    static void unlikeOfNoSuchK(Due due) {
        for (int n = 2; n <= 4; n++) {
            for (int k : new int[] {0, -1, n + 1, 5, 32, LEAST, MOST}) {
                due.is("unlike(" + k + ") of " + n, Due.sized(n).unlike(k), -2);
            }
        }
    }

    @Sentence(promise = 20, words = {"UNLIKE.", "UNLIKE of k (1 .. n): how many unlike numbers MINORS of k rows are."})
    static void unlikeOfAllAlikeAndOfAllUnlike(Due due) {
        MinorTables alike = Due.table(4, 7, 7, 7, 7, 7, 7, 7, 7, 7, 7, 7, 7, 7, 7, 7, 7);
        for (int k = 1; k <= 4; k++) {
            due.is("all alike, unlike(" + k + ")", alike.unlike(k), 1);
        }
        MinorTables unlike = Due.table(4, 2, -3, 5, 7, 11, 13, -17, 19, 23, -29, 31, 37, 41, 43, 47, -53);
        int[] want = {16, 36, 16, 1};
        for (int k = 1; k <= 4; k++) {
            due.is("all unlike, unlike(" + k + ")", unlike.unlike(k), want[k - 1]);
        }
        due.is("one and its other side", Due.table(2, 5, -5, 0, 0).unlike(1), 3);
        due.is("the last is like the first", Due.table(2, 5, 6, 7, 5).unlike(1), 3);
        due.is("new", new MinorTables().unlike(1), 2);
    }

    @Sentence(promise = 20, words = "All that follows is asked, and changes nothing.")
    static void unlikeChangesNothing(Due due) {
        Look.staysBy(due, Look.full(), x -> x.unlike(1), x -> x.unlike(2), x -> x.unlike(0));
    }

    // ---- Promise 21: may

    private static void mayIs(Due due, MinorTables x, int spot, int many, int least, int greatest) {
        due.is("how many at " + spot, x.may(spot, 0), many);
        due.is("the least at " + spot, x.may(spot, 1), least);
        due.is("the greatest at " + spot, x.may(spot, 2), greatest);
    }

    @Sentence(promise = 21, words = "NONE: spot, what.")
    static void mayOfNoSpotOrWhat(Due due) {
        for (int n = 2; n <= 4; n++) {
            for (int spot : Due.noSpots(n)) {
                due.is("may(" + spot + ", 0) of " + n, Due.sized(n).may(spot, 0), -1);
            }
        }
        for (int what : new int[] {-1, 3, 4, LEAST, MOST}) {
            due.is("may(0, " + what + ")", Due.table(4, PASCAL).may(0, what), -1);
        }
    }

    @Sentence(promise = 21, words = "(-5 for both: there is none).")
    static void mayOfNone(Due due) {
        mayIs(due, new MinorTables(), 0, 0, -5, -5);
        mayIs(due, Due.table(2, 1, 9, 11, 5), 11, 0, -5, -5);
        mayIs(due, Due.table(2, 0, 1, 1, 5), 11, 0, -5, -5);
        mayIs(due, Due.table(2, -3, 1, 1, 1), 11, 0, -5, -5);
    }

    @Sentence(promise = 21, words = {"MAY STAND: what 0 how many, 1 the least, and 100, 2 the greatest, and 100", "MAY STAND at a"
        + " SPOT: numbers -99 .. 99 by which, were each there alone, THE TABLE would be POSITIVE: how many; the least; the"
        + " greatest."})
    static void mayUpToNinetyNine(Due due) {
        mayIs(due, Due.table(2, 1, 7, 14, 5), 11, 1, 199, 199);
        mayIs(due, Due.table(2, 1, 1, 1, 5), 11, 98, 102, 199);
        mayIs(due, Due.table(2, 5, 1, 1, 5), 0, 99, 101, 199);
        mayIs(due, Due.table(2, 5, 1, 1, -5), 11, 99, 101, 199);
        mayIs(due, Due.table(2, 3, 5, 7, 12), 1, 5, 101, 105);
        mayIs(due, Due.table(2, 3, 5, 7, 12), 10, 7, 101, 107);
        mayIs(due, Due.table(2, 99, 99, 1, 99), 10, 98, 101, 198);
        mayIs(due, Due.table(2, 99, 1, 1, 99), 1, 99, 101, 199);
    }

    @Sentence(promise = 21, words = "The least and the greatest that MAY STAND are told whether all between may or not.")
    static void mayOfOneAndOfMore(Due due) {
        MinorTables x = Due.table(3, 1, 1, 1, 1, 2, 3, 1, 3, 6);
        mayIs(due, x, 22, 94, 106, 199);
        mayIs(due, x, 11, 1, 102, 102);
        mayIs(due, x, 2, 1, 101, 101);
        mayIs(due, x, 20, 1, 101, 101);
        mayIs(due, Due.table(3, 1, 1, 1, 1, 2, 4, 1, 4, 12), 12, 2, 103, 104);
        mayIs(due, Due.table(4, PASCAL), 33, 80, 120, 199);
    }

    @Sentence(promise = 21, words = "were each there alone")
    static void mayWhateverStandsThereNow(Due due) {
        for (int now : new int[] {-99, 0, 2, 99}) {
            mayIs(due, Due.table(3, 1, 1, 1, 1, now, 3, 1, 3, 6), 11, 1, 102, 102);
            mayIs(due, Due.table(2, 3, 5, 7, now), 11, 88, 112, 199);
        }
    }

    @Sentence(promise = 21, words = "All that follows is asked, and changes nothing.")
    static void mayChangesNothing(Due due) {
        Look.staysBy(due, Look.full(), x -> x.may(0, 0), x -> x.may(12, 1), x -> x.may(22, 2), x -> x.may(3, 0), x -> x.may(0, 3));
    }
}

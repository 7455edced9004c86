/** Promises 6 to 8, 14 and 22 to 24: chips, their product and its paths, one test for each sentence. */
final class EdgesOfChips {
    private static final int RISE = 0, FALL = 1, SCALE = 2;
    private static final int LEAST = Due.LEAST, MOST = Due.MOST;

    private EdgesOfChips() {
    }

    // ---- Promise 6: chip

    @Sentence(promise = 6, words = {"NONE: kind, i", "each of a KIND, with i and v"})
    static void chipOfNoKind(Due due) {
        for (int kind : new int[] {-1, 3, 4, LEAST, MOST}) {
            due.is("chip(" + kind + ", 0, 1)", new MinorTables().chip(kind, 0, 1), -1);
        }
    }

    @Sentence(promise = 6, words = "0 RISE (i 0 .. n - 2)")
    static void chipRise(Due due) {
        risesOrFalls(due, RISE);
    }

    @Sentence(promise = 6, words = "1 FALL (i 0 .. n - 2)")
    static void chipFall(Due due) {
        risesOrFalls(due, FALL);
    }

    private static void risesOrFalls(Due due, int kind) {
        for (int n = 2; n <= 4; n++) {
            for (int i : new int[] {-1, n - 1, n, LEAST, MOST}) {
                due.is("i " + i + " of " + n, Due.sized(n).chip(kind, i, 1), -1);
            }
            due.is("the first i of " + n, Due.sized(n).chip(kind, 0, 1), 1);
            due.is("the last i of " + n, Due.sized(n).chip(kind, n - 2, 1), 1);
        }
    }

    @Sentence(promise = 6, words = "2 SCALE (i 0 .. n - 1)")
    static void chipScale(Due due) {
        for (int n = 2; n <= 4; n++) {
            for (int i : new int[] {-1, n, n + 1, LEAST, MOST}) {
                due.is("i " + i + " of " + n, Due.sized(n).chip(SCALE, i, 1), -1);
            }
            due.is("the first i of " + n, Due.sized(n).chip(SCALE, 0, 1), 1);
            due.is("the last i of " + n, Due.sized(n).chip(SCALE, n - 1, 1), 1);
        }
    }

    @Sentence(promise = 6, words = {"BAD: v", "v (1 .. 9)"})
    static void chipOfAValueBeyond(Due due) {
        for (int kind = 0; kind < 3; kind++) {
            for (int v : new int[] {0, -1, 10, LEAST, MOST}) {
                due.is("chip(" + kind + ", 0, " + v + ")", new MinorTables().chip(kind, 0, v), -2);
            }
            due.is("the least of kind " + kind, new MinorTables().chip(kind, 0, 1), 1);
            due.is("the greatest of kind " + kind, new MinorTables().chip(kind, 0, 9), 1);
        }
    }

    @Sentence(promise = 6, words = {"FULL: 12.", "A CHIP comes: how many there are.", "CHIPS: a row of them (12 at most"})
    static void chipTheThirteenth(Due due) {
        MinorTables x = new MinorTables();
        for (int many = 1; many <= 12; many++) {
            due.is("chip " + many, x.chip(many % 3, many % 2, 1 + many % 9), many);
        }
        due.is("the thirteenth", x.chip(SCALE, 0, 1), -4);
        due.is("how many", x.told(1), 12);
    }

    @Sentence(promise = 6, words = "Answers: NONE (-1) no such number, SPOT, MINOR; BAD (-2) a number is not as told; STATE (-3) as"
        + " told; FULL (-4); the first that a call's words name.")
    static void chipNamesItsRefusalsInOrder(Due due) {
        MinorTables x = Due.chips(3, 2, 0, 1, 2, 0, 1, 2, 0, 1, 2, 0, 1, 2, 0, 1, 2, 0, 1, 2, 0, 1, 2, 0, 1, 2, 0, 1,
            2, 0, 1, 2, 0, 1, 2, 0, 1);
        due.is("no kind, bad v, full", x.chip(3, 0, 0), -1);
        due.is("no i, bad v, full", x.chip(SCALE, 3, 10), -1);
        due.is("no i, full", x.chip(RISE, 2, 1), -1);
        due.is("bad v, full", x.chip(SCALE, 0, 10), -2);
        due.is("full", x.chip(SCALE, 0, 9), -4);
        due.is("NONE", MinorTables.NONE, -1);
        due.is("BAD", MinorTables.BAD, -2);
        due.is("STATE", MinorTables.STATE, -3);
        due.is("FULL", MinorTables.FULL, -4);
    }

    @Sentence(promise = 6, words = {"What is refused leaves NOTED", "What is answered so changes nothing"})
    static void chipThatIsRefusedChangesNothing(Due due) {
        MinorTables x = Look.full();
        Look.staysBy(due, x, y -> y.chip(3, 0, 1), y -> y.chip(RISE, 2, 1), y -> y.chip(SCALE, 0, 10));
        for (int k = 3; k < 12; k++) {
            x.chip(SCALE, 0, 1);
        }
        Look.staysBy(due, x, y -> y.chip(SCALE, 0, 9));
    }

    @Sentence(promise = 6, words = "A CHIP comes")
    static void chipLeavesTheTableAndNoted(Due due) {
        MinorTables x = new MinorTables();
        x.minor(1, 1);
        x.chip(SCALE, 0, 9);
        due.is("told(5)", x.told(5), 1);
        due.tableIs("as it was", x, 1, 0, 0, 0, 1, 0, 0, 0, 1);
    }

    // ---- Promise 7: clear

    @Sentence(promise = 7, words = "There are no CHIPS any more: how many there were.")
    static void clearOfNoneAndOfAll(Due due) {
        MinorTables x = new MinorTables();
        due.is("of none", x.clear(), 0);
        for (int k = 0; k < 12; k++) {
            x.chip(RISE, 0, 2);
        }
        due.is("of twelve", x.clear(), 12);
        due.is("told(1)", x.told(1), 0);
        due.is("chipOf(0, 0)", x.chipOf(0, 0), -1);
        due.is("THE PRODUCT", x.product(1), 0);
        due.is("one again", x.chip(SCALE, 2, 3), 1);
        due.is("THE PRODUCT again", x.product(1), 0);
        due.is("clear again", x.clear(), 1);
    }

    @Sentence(promise = 7, words = "There are no CHIPS any more")
    static void clearLeavesTheTableAndNoted(Due due) {
        MinorTables x = Due.table(2, 5, 6, 7, 8);
        x.chip(SCALE, 0, 9);
        x.minor(1, 1);
        x.clear();
        due.is("told(5)", x.told(5), 1);
        due.tableIs("as it was", x, 5, 6, 7, 8);
    }

    // ---- Promise 8: take

    @Sentence(promise = 8, words = "THE TABLE becomes THE PRODUCT: 1.")
    static void takeOfAProduct(Due due) {
        MinorTables x = Due.chips(3, RISE, 0, 2, FALL, 1, 3, SCALE, 2, 4);
        due.is("take()", x.take(), 1);
        due.tableIs("THE PRODUCT", x, 1, 2, 0, 0, 1, 0, 0, 3, 4);
    }

    @Sentence(promise = 8, words = "no CHIPS: 1 where row and column are alike, else 0")
    static void takeWithoutChips(Due due) {
        MinorTables x = Due.table(4, 1, 2, 3, 4, 5, 6, 7, 8, 9, 10, 11, 12, 13, 14, 15, 16);
        due.is("take()", x.take(), 1);
        due.tableIs("no CHIPS", x, 1, 0, 0, 0, 0, 1, 0, 0, 0, 0, 1, 0, 0, 0, 0, 1);
    }

    @Sentence(promise = 8, words = "STATE: a number of it is above 99.")
    static void takeOfNinetyNineAndOfAHundred(Due due) {
        MinorTables x = Due.sized(2);
        for (int k = 0; k < 11; k++) {
            x.chip(RISE, 0, 9);
        }
        due.is("99 isn't above 99", x.take(), 1);
        due.is("99", x.of(0, 1), 199);
        x.chip(RISE, 0, 1);
        due.is("100 is above 99", x.take(), -3);
        due.is("99 yet", x.of(0, 1), 199);
    }

    @Sentence(promise = 8, words = "a number of it is above 99.")
    static void takeWithOneNumberAboveAtEachSpot(Due due) {
        for (int n = 2; n <= 4; n++) {
            for (int i = 0; i < n; i++) {
                MinorTables x = Due.chips(n, SCALE, i, 9, SCALE, i, 9, SCALE, i, 2);
                due.is("162 in row " + i + " of " + n, x.take(), -3);
                due.is("not taken", x.of(0, 11 * i), 101);
            }
            for (int i = 0; i < n - 1; i++) {
                due.is("above the middle", hundredAndEight(n, RISE, i).take(), -3);
                due.is("below the middle", hundredAndEight(n, FALL, i).take(), -3);
            }
        }
        due.is("row 0, column 2", Due.chips(4, RISE, 0, 9, RISE, 0, 9, RISE, 1, 9).take(), -3);
        due.is("row 1, column 3", Due.chips(4, RISE, 1, 9, RISE, 1, 9, RISE, 2, 9).take(), -3);
        due.is("row 2, column 0", Due.chips(4, FALL, 1, 9, FALL, 1, 9, FALL, 0, 9).take(), -3);
        due.is("row 3, column 1", Due.chips(4, FALL, 2, 9, FALL, 2, 9, FALL, 1, 9).take(), -3);
        due.is("in the corner", Due.chips(4, RISE, 0, 9, RISE, 1, 9, RISE, 2, 2).take(), -3);
        due.is("in the other corner", Due.chips(4, FALL, 2, 9, FALL, 1, 9, FALL, 0, 2).take(), -3);
    }

    private static MinorTables hundredAndEight(int n, int kind, int i) {
        MinorTables x = Due.sized(n);
        for (int k = 0; k < 12; k++) {
            x.chip(kind, i, 9);
        }
        return x;
    }

    @Sentence(promise = 8, words = "take() that is STATE leaves the CHIPS.")
    static void takeThatIsStateLeavesTheChips(Due due) {
        MinorTables x = Due.chips(3, SCALE, 1, 9, SCALE, 1, 9, SCALE, 1, 2, RISE, 0, 7);
        due.is("take()", x.take(), -3);
        due.is("told(1)", x.told(1), 4);
        due.is("the last one", x.chipOf(3, 2), 7);
        due.is("THE PRODUCT", x.product(11), 162);
    }

    @Sentence(promise = 8, words = {"What is refused leaves NOTED", "What is answered so changes nothing"})
    static void takeThatIsStateChangesNothing(Due due) {
        MinorTables x = Look.full();
        x.chip(SCALE, 0, 9);
        x.chip(SCALE, 0, 9);
        x.chip(SCALE, 0, 9);
        Look.staysBy(due, x, y -> y.take());
        due.is("it is STATE", x.take(), -3);
    }

    @Sentence(promise = 8, words = "also if no number changed by it")
    static void takeOfTheSameNumbersForgetsNoted(Due due) {
        MinorTables x = new MinorTables();
        x.minor(1, 1);
        x.take();
        due.is("told(5)", x.told(5), 0);
    }

    @Sentence(promise = 8, words = "THE TABLE becomes THE PRODUCT")
    static void takeLeavesChipsAndVector(Due due) {
        MinorTables x = Due.chips(2, SCALE, 0, 9);
        x.vector(1, 4);
        x.take();
        due.is("told(1)", x.told(1), 1);
        due.is("THE VECTOR", x.of(1, 1), 104);
        x.take();
        due.is("taken again, not multiplied again", x.of(0, 0), 109);
    }

    // ---- Promise 14: chipOf

    @Sentence(promise = 14, words = "NONE: chip, what.")
    static void chipOfNothingThere(Due due) {
        MinorTables x = Due.chips(3, RISE, 0, 2, FALL, 1, 3);
        for (int chip : new int[] {-1, 2, 3, 12, LEAST, MOST}) {
            due.is("chipOf(" + chip + ", 0)", x.chipOf(chip, 0), -1);
        }
        for (int what : new int[] {-1, 3, 4, LEAST, MOST}) {
            due.is("chipOf(1, " + what + ")", x.chipOf(1, what), -1);
        }
        x.clear();
        due.is("chipOf(0, 0) of none", x.chipOf(0, 0), -1);
    }

    @Sentence(promise = 14, words = "Of a CHIP KIND (what 0), i (1), v (2).")
    static void chipOfEachOfTwelve(Due due) {
        MinorTables x = Due.sized(4);
        for (int k = 0; k < 12; k++) {
            x.chip((k + 1) % 3, k % 3, 1 + (k + 4) % 9);
        }
        for (int k = 0; k < 12; k++) {
            due.is("KIND of " + k, x.chipOf(k, 0), (k + 1) % 3);
            due.is("i of " + k, x.chipOf(k, 1), k % 3);
            due.is("v of " + k, x.chipOf(k, 2), 1 + (k + 4) % 9);
        }
        due.is("no thirteenth", x.chipOf(12, 0), -1);
    }

    @Sentence(promise = 14, words = "what is asked changes nothing")
    static void chipOfChangesNothing(Due due) {
        Look.staysBy(due, Look.full(), x -> x.chipOf(0, 0), x -> x.chipOf(2, 2), x -> x.chipOf(3, 0), x -> x.chipOf(0, 3));
    }

    // ---- Promise 22: product

    @Sentence(promise = 22, words = "NO: spot.")
    static void productAtNoSpot(Due due) {
        for (int n = 2; n <= 4; n++) {
            for (int spot : Due.noSpots(n)) {
                due.is("product(" + spot + ") of " + n, Due.sized(n).product(spot), Due.NO);
            }
        }
    }

    private static void productIs(Due due, String what, MinorTables x, long... numbers) {
        int n = x.told(0);
        for (int p = 0; p < n * n; p++) {
            due.is(what + " at " + Due.spot(n, p), x.product(Due.spot(n, p)), numbers[p]);
        }
    }

    @Sentence(promise = 22, words = {"The number of THE PRODUCT at a SPOT.", "(no CHIPS: 1 where row and column are alike,"
        + " else 0)"})
    static void productWithoutChips(Due due) {
        productIs(due, "two", Due.table(2, 5, 6, 7, 8), 1, 0, 0, 1);
        productIs(due, "three", new MinorTables(), 1, 0, 0, 0, 1, 0, 0, 0, 1);
        productIs(due, "four", Due.sized(4), 1, 0, 0, 0, 0, 1, 0, 0, 0, 0, 1, 0, 0, 0, 0, 1);
    }

    @Sentence(promise = 22, words = "A CHIP is a table of n rows and columns, 1 where row and column are alike, else 0, but: RISE"
        + " has v in row i, column i + 1; FALL has v in row i + 1, column i; SCALE has v in row i, column i.")
    static void productOfOneChip(Due due) {
        productIs(due, "the first RISE", Due.chips(3, RISE, 0, 9), 1, 9, 0, 0, 1, 0, 0, 0, 1);
        productIs(due, "the last RISE", Due.chips(3, RISE, 1, 9), 1, 0, 0, 0, 1, 9, 0, 0, 1);
        productIs(due, "the first FALL", Due.chips(3, FALL, 0, 9), 1, 0, 0, 9, 1, 0, 0, 0, 1);
        productIs(due, "the last FALL", Due.chips(3, FALL, 1, 9), 1, 0, 0, 0, 1, 0, 0, 9, 1);
        productIs(due, "the first SCALE", Due.chips(3, SCALE, 0, 9), 9, 0, 0, 0, 1, 0, 0, 0, 1);
        productIs(due, "the last SCALE", Due.chips(3, SCALE, 2, 9), 1, 0, 0, 0, 1, 0, 0, 0, 9);
        productIs(due, "a SCALE of 1", Due.chips(3, SCALE, 1, 1), 1, 0, 0, 0, 1, 0, 0, 0, 1);
    }

    @Sentence(promise = 22, words = "THE PRODUCT: of all CHIPS, the first times the second, and so on")
    static void productInTheOrderOfChips(Due due) {
        productIs(due, "RISE times FALL", Due.chips(2, RISE, 0, 2, FALL, 0, 3), 7, 2, 3, 1);
        productIs(due, "FALL times RISE", Due.chips(2, FALL, 0, 3, RISE, 0, 2), 1, 2, 3, 7);
        productIs(due, "SCALE times RISE", Due.chips(2, SCALE, 0, 5, RISE, 0, 2), 5, 10, 0, 1);
        productIs(due, "RISE times SCALE", Due.chips(2, RISE, 0, 2, SCALE, 0, 5), 5, 2, 0, 1);
        productIs(due, "RISE by RISE", Due.chips(3, RISE, 0, 2, RISE, 1, 3), 1, 2, 6, 0, 1, 3, 0, 0, 1);
        productIs(due, "the other way round", Due.chips(3, RISE, 1, 3, RISE, 0, 2), 1, 2, 0, 0, 1, 3, 0, 0, 1);
    }

    @Sentence(promise = 22, words = "THE PRODUCT: of all CHIPS")
    static void productOfTwelveGreatChips(Due due) {
        MinorTables x = towering(2);
        long[] want = {1, 0, 0, 1};
        for (int k = 0; k < 6; k++) {
            // Times RISE of 9, then times FALL of 9: columns change.
            want = new long[] {want[0] + 9 * (want[1] + 9 * want[0]), want[1] + 9 * want[0],
                want[2] + 9 * (want[3] + 9 * want[2]), want[3] + 9 * want[2]};
        }
        productIs(due, "beyond ints", x, want);
        due.holds("it is beyond ints", want[0] > MOST);
        MinorTables y = Due.sized(2);
        for (int k = 0; k < 12; k++) {
            y.chip(SCALE, 1, 9);
        }
        due.is("9 to the power of 12", y.product(11), 282429536481L);
    }

    /** Twelve chips of 9, so that products of the product's numbers are beyond longs. */
    private static MinorTables towering(int n) {
        MinorTables x = Due.sized(n);
        for (int k = 0; k < 6; k++) {
            x.chip(RISE, k % (n - 1), 9);
            x.chip(FALL, k % (n - 1), 9);
        }
        return x;
    }

    @Sentence(promise = 22, words = "what is asked changes nothing")
    static void productChangesNothing(Due due) {
        Look.staysBy(due, Look.full(), x -> x.product(12), x -> x.product(0), x -> x.product(3));
    }

    // ---- Promise 23: productMinor

    @Sentence(promise = 23, words = "NO: no MINOR.")
    static void productMinorOfNoMinor(Due due) {
        for (int n = 2; n <= 4; n++) {
            for (int[] m : Due.noMinors(n)) {
                due.is("productMinor(" + m[0] + ", " + m[1] + ") of " + n, Due.sized(n).productMinor(m[0], m[1]), Due.NO);
            }
        }
    }

    @Sentence(promise = 23, words = {"The MINOR of THE PRODUCT.", "no CHIPS: 1 where row and column are alike, else 0"})
    static void productMinorWithoutChips(Due due) {
        for (int n = 2; n <= 4; n++) {
            MinorTables x = Due.sized(n);
            x.set(0, 50);
            x.set(1, 50);
            int all = (1 << n) - 1;
            due.is("all of " + n, x.productMinor(all, all), 1);
            due.is("like sets", x.productMinor(2, 2), 1);
            due.is("unlike sets", x.productMinor(1, 2), 0);
        }
    }

    @Sentence(promise = 23, words = {"THE PRODUCT: of all CHIPS, the first times the second, and so on", "its MINORS are always"
        + " within longs (products of its numbers need not be)."})
    static void productMinorWhereProductsAreBeyondLongs(Due due) {
        MinorTables x = towering(2);
        due.holds("a product of numbers is beyond longs",
            Math.multiplyHigh(x.product(0), x.product(11)) != 0);
        due.is("all", x.productMinor(3, 3), 1);
        MinorTables y = Due.chips(2, SCALE, 0, 3, RISE, 0, 9, FALL, 0, 9, RISE, 0, 9, FALL, 0, 9, RISE, 0, 9, FALL, 0, 9,
            RISE, 0, 9, FALL, 0, 9, RISE, 0, 9, FALL, 0, 9, SCALE, 1, 5);
        due.is("15", y.productMinor(3, 3), 15);
        due.is("one number", y.productMinor(2, 2), y.product(11));
    }

    @Sentence(promise = 23, words = "rows and columns in their order.")
    static void productMinorOfEachSize(Due due) {
        MinorTables x = Due.chips(4, SCALE, 0, 2, SCALE, 1, 3, SCALE, 2, 5, SCALE, 3, 7, RISE, 0, 1, RISE, 1, 1, RISE, 2, 1);
        // 2 2 2 2; 0 3 3 3; 0 0 5 5; 0 0 0 7
        due.is("one", x.productMinor(2, 8), 3);
        due.is("two", x.productMinor(3, 6), 0);
        due.is("two that aren't side by side", x.productMinor(5, 12), 0);
        due.is("two, the outer ones", x.productMinor(9, 9), 14);
        due.is("three", x.productMinor(7, 11), 30);
        due.is("three, the last ones", x.productMinor(14, 14), 105);
        due.is("four", x.productMinor(15, 15), 210);
    }

    @Sentence(promise = 23, words = {"NOTED: ROWS and COLUMNS of the MINORS that minor() told", "what is asked changes nothing"})
    static void productMinorChangesNothing(Due due) {
        Look.staysBy(due, Look.full(), x -> x.productMinor(1, 1), x -> x.productMinor(7, 7), x -> x.productMinor(1, 3));
    }

    // ---- Promise 24: paths

    @Sentence(promise = 24, words = "NO: no MINOR.")
    static void pathsOfNoMinor(Due due) {
        for (int n = 2; n <= 4; n++) {
            for (int[] m : Due.noMinors(n)) {
                due.is("paths(" + m[0] + ", " + m[1] + ") of " + n, Due.sized(n).paths(m[0], m[1]), Due.NO);
            }
        }
    }

    @Sentence(promise = 24, words = "Of like sets without CHIPS there is one PATH.")
    static void pathsWithoutChips(Due due) {
        for (int n = 2; n <= 4; n++) {
            int all = (1 << n) - 1;
            for (int set : new int[] {1, 2, 1 << (n - 1), all, all - 1}) {
                due.is("like sets " + set + " of " + n, Due.sized(n).paths(set, set), 1);
            }
            due.is("unlike sets", Due.sized(n).paths(1, 2), 0);
            due.is("the outer lines", Due.sized(n).paths(1, 1 << (n - 1)), 0);
        }
    }

    @Sentence(promise = 24, words = {"PATHS of ROWS to COLUMNS.", "PATHS of THE PRODUCT: there are LINES 0 .. n - 1; on each LINE"
        + " a PATH may go through all CHIPS, one behind the other"})
    static void pathsThroughChipsOneBehindTheOther(Due due) {
        MinorTables x = Due.chips(4, RISE, 0, 2, RISE, 1, 3, RISE, 2, 5);
        due.is("from the first LINE to the last", x.paths(1, 8), 30);
        MinorTables y = Due.chips(4, RISE, 2, 5, RISE, 1, 3, RISE, 0, 2);
        due.is("chips the other way round", y.paths(1, 8), 0);
        due.is("one LINE up", y.paths(1, 2), 2);
    }

    @Sentence(promise = 24, words = "at a RISE of i one on LINE i may go on to LINE i + 1, and costs v then")
    static void pathsAtARise(Due due) {
        MinorTables x = Due.chips(3, RISE, 1, 9);
        due.is("up", x.paths(2, 4), 9);
        due.is("it may stay", x.paths(2, 2), 1);
        due.is("none falls", x.paths(4, 2), 0);
        due.is("none rises two", x.paths(1, 4), 0);
        due.is("another LINE stays", x.paths(1, 2), 0);
    }

    @Sentence(promise = 24, words = "at a FALL of i one on LINE i + 1 may go on to LINE i, for v")
    static void pathsAtAFall(Due due) {
        MinorTables x = Due.chips(3, FALL, 1, 9);
        due.is("down", x.paths(4, 2), 9);
        due.is("it may stay", x.paths(4, 4), 1);
        due.is("none rises", x.paths(2, 4), 0);
        due.is("none falls two", x.paths(4, 1), 0);
        due.is("another LINE stays", x.paths(2, 1), 0);
    }

    @Sentence(promise = 24, words = "at a SCALE of i one on LINE i costs v; else it stays on its LINE, for nothing (times 1).")
    static void pathsAtAScale(Due due) {
        MinorTables x = Due.chips(3, SCALE, 1, 9);
        due.is("on it", x.paths(2, 2), 9);
        due.is("beside it", x.paths(1, 1), 1);
        due.is("beside it", x.paths(4, 4), 1);
        due.is("one of both", x.paths(3, 3), 9);
        due.is("none changes LINES", x.paths(2, 4), 0);
    }

    @Sentence(promise = 24, words = "PATHS of some of ROWS to COLUMNS: as many PATHS, each from a LINE of ROWS to one of COLUMNS, no"
        + " two on one LINE anywhere (ahead of a CHIP, behind it)")
    static void pathsThatNeverMeet(Due due) {
        MinorTables x = Due.chips(3, RISE, 0, 2);
        due.is("one can't rise to a LINE that another is on", x.paths(3, 3), 1);
        due.is("both can't end on one", x.paths(3, 6), 0);
        MinorTables y = Due.chips(3, RISE, 0, 2, RISE, 1, 3);
        due.is("the upper one goes too late", y.paths(3, 6), 0);
        MinorTables z = Due.chips(3, RISE, 1, 3, RISE, 0, 2);
        due.is("the upper one goes first", z.paths(3, 6), 6);
        MinorTables w = Due.chips(2, RISE, 0, 2, FALL, 0, 3);
        due.is("they don't change places", w.paths(3, 3), 1);
        MinorTables f = Due.chips(3, FALL, 1, 3, FALL, 0, 2);
        due.is("down, the lower one goes too late", f.paths(6, 3), 0);
        due.is("down, the lower one goes first", Due.chips(3, FALL, 0, 2, FALL, 1, 3).paths(6, 3), 6);
    }

    @Sentence(promise = 24, words = "what they cost is multiplied; over all ways it is added up.")
    static void pathsByMoreThanOneWay(Due due) {
        MinorTables x = Due.chips(2, RISE, 0, 2, SCALE, 0, 5, SCALE, 1, 7, RISE, 0, 3);
        due.is("2 by 7, and 5 by 3", x.paths(1, 2), 29);
        due.is("both LINES", x.paths(3, 3), 35);
        due.is("back again", Due.chips(2, RISE, 0, 2, FALL, 0, 3).paths(1, 1), 7);
    }

    @Sentence(promise = 24, words = "its MINORS are always within longs")
    static void pathsOfGreatCostAreMinors(Due due) {
        for (int n = 2; n <= 4; n++) {
            MinorTables x = towering(n);
            for (int rows = 1; rows < 1 << n; rows++) {
                for (int columns = 1; columns < 1 << n; columns++) {
                    due.is("paths(" + rows + ", " + columns + ") of " + n, x.paths(rows, columns), x.productMinor(rows, columns));
                }
            }
        }
        due.is("all of two", towering(2).paths(3, 3), 1);
    }

    @Sentence(promise = 24, words = "what is asked changes nothing")
    static void pathsChangesNothing(Due due) {
        Look.staysBy(due, Look.full(), x -> x.paths(1, 1), x -> x.paths(7, 7), x -> x.paths(1, 3), x -> x.paths(3, 5));
    }
}

/** Promises 1 to 5, 9, 12 and 13: the table and what is told of it, one test for each sentence. */
final class EdgesOfTheTable {
    private static final int LEAST = Due.LEAST, MOST = Due.MOST;
    private static final int[] SQUARE = {1, 2, 3, 4, 5, 6, 7, 8, 9};
    private static final int[] GREAT_SQUARE = {1, 2, 3, 4, 5, 6, 7, 8, 9, 10, 11, 12, 13, 14, 15, 16};

    private EdgesOfTheTable() {
    }

    // ---- Promise 1: a new object

    @Sentence(promise = 1, words = "Three rows, 1 where row and column are alike.")
    static void newTable(Due due) {
        due.tableIs("new", new MinorTables(), 1, 0, 0, 0, 1, 0, 0, 0, 1);
    }

    @Sentence(promise = 1, words = "(n 2 .. 4; 3 at first)")
    static void newHasThreeRowsAndNoFourth(Due due) {
        MinorTables x = new MinorTables();
        due.is("n", x.told(0), 3);
        due.is("the last SPOT", x.of(0, 22), 101);
        due.is("a fourth column", x.of(0, 3), -1);
        due.is("a fourth row", x.of(0, 30), -1);
    }

    @Sentence(promise = 1, words = "at first 1 where row and column are alike, else 0")
    static void newSpots(Due due) {
        for (int spot : new int[] {0, 1, 2, 10, 11, 12, 20, 21, 22}) {
            due.is("of(0, " + spot + ")", new MinorTables().of(0, spot), spot % 11 == 0 ? 101 : 100);
        }
    }

    @Sentence(promise = 1, words = "CHIPS: a row of them (12 at most; none at first)")
    static void newHasNoChips(Due due) {
        MinorTables x = new MinorTables();
        due.is("told(1)", x.told(1), 0);
        due.is("chipOf(0, 0)", x.chipOf(0, 0), -1);
        due.is("clear()", x.clear(), 0);
    }

    @Sentence(promise = 1, words = "THE VECTOR: n numbers (-9 .. 9; 0 at first)")
    static void newVectorIsNought(Due due) {
        MinorTables x = new MinorTables();
        for (int i = 0; i < 3; i++) {
            due.is("of(1, " + i + ")", x.of(1, i), 100);
        }
        due.is("of(1, 3)", x.of(1, 3), -1);
    }

    @Sentence(promise = 1, words = "TAPES 0 .. 5 hold nothing (at first)")
    static void newTapesHoldNothing(Due due) {
        MinorTables x = new MinorTables();
        for (int tape = 0; tape < 6; tape++) {
            due.is("item of tape " + tape, x.item(tape, 0, 1), -11);
            due.is("peek at tape " + tape, x.peek(tape, 0), Due.NO);
        }
    }

    @Sentence(promise = 1, words = "NOTED: ROWS and COLUMNS of the MINORS that minor() told")
    static void newHasNothingNoted(Due due) {
        MinorTables x = new MinorTables();
        due.is("told(5)", x.told(5), 0);
        due.is("noted(0)", x.noted(0), -5);
    }

    @Sentence(promise = 1, words = {"EVENTS told by hand", "A BOOK told by hand", "SEEN told by hand"})
    static void newHasNothingToldByHand(Due due) {
        MinorTables x = new MinorTables();
        for (int what = 0; what < 4; what++) {
            due.is("count(" + what + ")", x.count(what), 0);
        }
        due.is("looked()", x.looked(), -5);
        due.is("no IMAGE", x.undo(), -3);
    }

    // ---- Promise 2: size

    @Sentence(promise = 2, words = "BAD.")
    static void sizeTooSmall(Due due) {
        for (int n : new int[] {1, 0, -1, -2, LEAST}) {
            due.is("size(" + n + ")", new MinorTables().size(n), -2);
        }
    }

    @Sentence(promise = 2, words = {"THE TABLE has n rows and n columns (n 2 .. 4", "BAD."})
    static void sizeTooLargeOrJustThere(Due due) {
        for (int n : new int[] {5, 6, MOST}) {
            due.is("size(" + n + ")", new MinorTables().size(n), -2);
        }
        MinorTables x = new MinorTables();
        due.is("size(2)", x.size(2), 3);
        due.is("size(4)", x.size(4), 2);
        due.is("told(0)", x.told(0), 4);
    }

    @Sentence(promise = 2, words = "how many there were")
    static void sizeTellsHowManyRowsThereWere(Due due) {
        MinorTables x = Due.chips(2, 2, 0, 1);
        due.is("size(3)", x.size(3), 2);
        due.is("size(4)", x.size(4), 3);
        due.is("size(2)", x.size(2), 4);
    }

    @Sentence(promise = 2, words = "There are n rows and columns, 1 where they are alike, else 0")
    static void sizeMakesTheTableAnew(Due due) {
        MinorTables x = Due.table(4, GREAT_SQUARE);
        x.size(2);
        due.tableIs("less", x, 1, 0, 0, 1);
        x = Due.table(2, 5, 6, 7, 8);
        x.size(3);
        due.tableIs("more", x, 1, 0, 0, 0, 1, 0, 0, 0, 1);
        x = Due.table(3, SQUARE);
        x.size(4);
        due.tableIs("most", x, 1, 0, 0, 0, 0, 1, 0, 0, 0, 0, 1, 0, 0, 0, 0, 1);
    }

    @Sentence(promise = 2, words = "there are no CHIPS")
    static void sizeTakesTheChips(Due due) {
        MinorTables x = Due.chips(3, 0, 0, 5, 2, 2, 3);
        x.size(4);
        due.is("told(1)", x.told(1), 0);
        due.is("product(1)", x.product(1), 0);
        due.is("chip", x.chip(2, 3, 1), 1);
    }

    @Sentence(promise = 2, words = "THE VECTOR is 0")
    static void sizeMakesTheVectorNought(Due due) {
        MinorTables x = Due.sized(4);
        for (int i = 0; i < 4; i++) {
            x.vector(i, i % 2 == 0 ? 9 : -9);
        }
        x.size(2);
        x.size(4);
        for (int i = 0; i < 4; i++) {
            due.is("of(1, " + i + ")", x.of(1, i), 100);
        }
        due.is("CHANGES", x.told(6), 0);
    }

    @Sentence(promise = 2, words = "behind size(), which does all it tells also for the same n.")
    static void sizeOfTheSameN(Due due) {
        MinorTables x = Due.table(3, SQUARE);
        x.chip(0, 0, 2);
        x.vector(1, 4);
        x.minor(1, 1);
        due.is("size(3)", x.size(3), 3);
        due.tableIs("same", x, 1, 0, 0, 0, 1, 0, 0, 0, 1);
        due.is("CHIPS", x.told(1), 0);
        due.is("THE VECTOR", x.of(1, 1), 100);
        due.is("NOTED", x.told(5), 0);
    }

    @Sentence(promise = 2, words = "SEEN, EVENTS and the BOOK stay")
    static void sizeLeavesWhatIsToldByHand(Due due) {
        MinorTables x = new MinorTables();
        x.see(1, 1, 9);
        x.event(1, 0);
        x.book(0, 9);
        x.size(2);
        due.is("SEEN", x.fits(0, 1), 109);
        due.is("EVENTS", x.after(2), 0);
        due.is("the BOOK", x.looked(), 0);
        for (int what = 0; what < 3; what++) {
            due.is("count(" + what + ")", x.count(what), 1);
        }
    }

    @Sentence(promise = 2, words = "There are n rows and columns")
    static void sizeLeavesTheTextTheTapesAndTheImage(Due due) {
        MinorTables x = new MinorTables();
        x.feed('f');
        x.tape(0, 3, 1);
        x.item(0, 0, 7);
        x.chip(0, 0, 1);
        x.image();
        x.size(2);
        due.is("count(3)", x.count(3), 1);
        due.is("peek(0, 0)", x.peek(0, 0), 7);
        due.is("undo()", x.undo(), 1);
        due.is("n", x.told(0), 3);
    }

    @Sentence(promise = 2, words = "since THE TABLE was last told anything (size(), set(), turn(), flip(), take(), a text that did"
        + " so; also if no number changed by it)")
    static void sizeForgetsNotedThoughNoNumberChanged(Due due) {
        MinorTables x = new MinorTables();
        x.minor(1, 1);
        x.size(3);
        due.is("told(5)", x.told(5), 0);
        due.is("noted(0)", x.noted(0), -5);
    }

    @Sentence(promise = 2, words = {"What is refused leaves NOTED", "What is answered so changes nothing"})
    static void sizeThatIsRefusedChangesNothing(Due due) {
        Look.staysBy(due, Look.full(), x -> x.size(1), x -> x.size(5));
    }

    // ---- Promise 3: set

    @Sentence(promise = 3, words = "NONE: spot")
    static void setOfNoSpot(Due due) {
        for (int n = 2; n <= 4; n++) {
            for (int spot : Due.noSpots(n)) {
                due.is("set(" + spot + ", 0) of " + n, Due.sized(n).set(spot, 0), -1);
            }
        }
    }

    @Sentence(promise = 3, words = "BAD.")
    static void setOfANumberBeyond(Due due) {
        for (int v : new int[] {100, 101, -100, -101, MOST, LEAST}) {
            due.is("set(0, " + v + ")", new MinorTables().set(0, v), -2);
        }
    }

    @Sentence(promise = 3, words = "a number (-99 .. 99;")
    static void setOfTheLeastAndTheGreatest(Due due) {
        MinorTables x = new MinorTables();
        due.is("set(21, -99)", x.set(21, -99), 100);
        due.is("of", x.of(0, 21), 1);
        due.is("set(21, 99)", x.set(21, 99), 1);
        due.is("of", x.of(0, 21), 199);
    }

    @Sentence(promise = 3, words = "what it was, and 100.")
    static void setTellsWhatItWas(Due due) {
        MinorTables x = new MinorTables();
        due.is("was 1", x.set(0, -99), 101);
        due.is("was -99", x.set(0, 99), 1);
        due.is("was 99", x.set(0, 0), 199);
        due.is("was 0", x.set(0, 0), 100);
    }

    @Sentence(promise = 3, words = {"The number of a SPOT becomes v", "counted from 0, in each SPOT (10 times the row, and the"
        + " column, together)"})
    static void setOfEachSpotAlone(Due due) {
        for (int n = 2; n <= 4; n++) {
            for (int p = 0; p < n * n; p++) {
                MinorTables x = Due.sized(n);
                int[] numbers = new int[n * n];
                for (int i = 0; i < n; i++) {
                    numbers[i * n + i] = 1;
                }
                numbers[p] = 42;
                x.set(Due.spot(n, p), 42);
                due.tableIs("set of " + Due.spot(n, p), x, numbers);
            }
        }
    }

    @Sentence(promise = 3, words = "the first that a call's words name.")
    static void setNamesTheSpotFirst(Due due) {
        due.is("set(3, 100)", new MinorTables().set(3, 100), -1);
        due.is("set(-1, -100)", new MinorTables().set(-1, -100), -1);
    }

    @Sentence(promise = 3, words = "also if no number changed by it")
    static void setOfTheSameNumberForgetsNoted(Due due) {
        MinorTables x = new MinorTables();
        x.minor(1, 1);
        x.set(0, 1);
        due.is("told(5)", x.told(5), 0);
    }

    @Sentence(promise = 3, words = {"What is refused leaves NOTED", "What is answered so changes nothing"})
    static void setThatIsRefusedChangesNothing(Due due) {
        Look.staysBy(due, Look.full(), x -> x.set(3, 1), x -> x.set(30, 1), x -> x.set(0, 100), x -> x.set(0, -100));
    }

    // ---- Promise 4: turn

    @Sentence(promise = 4, words = "Rows become columns: 1.")
    static void turnOfEachSize(Due due) {
        MinorTables x = Due.table(2, 1, 2, 3, 4);
        due.is("turn()", x.turn(), 1);
        due.tableIs("two", x, 1, 3, 2, 4);
        x = Due.table(3, SQUARE);
        x.turn();
        due.tableIs("three", x, 1, 4, 7, 2, 5, 8, 3, 6, 9);
        x = Due.table(4, GREAT_SQUARE);
        x.turn();
        due.tableIs("four", x, 1, 5, 9, 13, 2, 6, 10, 14, 3, 7, 11, 15, 4, 8, 12, 16);
        x.turn();
        due.tableIs("twice", x, GREAT_SQUARE);
    }

    @Sentence(promise = 4, words = "also if no number changed by it")
    static void turnOfNoChangeForgetsNoted(Due due) {
        MinorTables x = new MinorTables();
        x.minor(1, 1);
        due.is("turn()", x.turn(), 1);
        due.is("told(5)", x.told(5), 0);
    }

    @Sentence(promise = 4, words = "Rows become columns")
    static void turnLeavesAllElse(Due due) {
        MinorTables x = new MinorTables();
        x.chip(0, 0, 5);
        x.vector(0, 3);
        x.turn();
        due.is("THE PRODUCT", x.product(1), 5);
        due.is("its other side", x.product(10), 0);
        due.is("THE VECTOR", x.of(1, 0), 103);
    }

    // ---- Promise 5: flip

    @Sentence(promise = 5, words = "The last row becomes the first one, and so on; columns likewise: 1.")
    static void flipOfEachSize(Due due) {
        MinorTables x = Due.table(2, 1, 2, 3, 4);
        due.is("flip()", x.flip(), 1);
        due.tableIs("two", x, 4, 3, 2, 1);
        x = Due.table(3, SQUARE);
        x.flip();
        due.tableIs("three", x, 9, 8, 7, 6, 5, 4, 3, 2, 1);
        x = Due.table(4, GREAT_SQUARE);
        x.flip();
        due.tableIs("four", x, 16, 15, 14, 13, 12, 11, 10, 9, 8, 7, 6, 5, 4, 3, 2, 1);
        x.flip();
        due.tableIs("twice", x, GREAT_SQUARE);
    }

    @Sentence(promise = 5, words = "also if no number changed by it")
    static void flipOfNoChangeForgetsNoted(Due due) {
        MinorTables x = new MinorTables();
        x.minor(1, 1);
        due.is("flip()", x.flip(), 1);
        due.is("told(5)", x.told(5), 0);
    }

    @Sentence(promise = 5, words = "The last row becomes the first one")
    static void flipLeavesAllElse(Due due) {
        MinorTables x = new MinorTables();
        x.chip(0, 0, 5);
        x.vector(0, 3);
        x.flip();
        due.is("THE PRODUCT", x.product(1), 5);
        due.is("its other end", x.product(21), 0);
        due.is("THE VECTOR", x.of(1, 0), 103);
        due.is("THE VECTOR's other end", x.of(1, 2), 100);
    }

    // ---- Promise 9: vector

    @Sentence(promise = 9, words = "NONE: i")
    static void vectorOfNoSuchNumber(Due due) {
        for (int n = 2; n <= 4; n++) {
            for (int i : new int[] {-1, n, n + 1, 10, LEAST, MOST}) {
                due.is("vector(" + i + ", 0) of " + n, Due.sized(n).vector(i, 0), -1);
            }
        }
    }

    @Sentence(promise = 9, words = "BAD.")
    static void vectorOfANumberBeyond(Due due) {
        for (int v : new int[] {10, -10, 99, MOST, LEAST}) {
            due.is("vector(0, " + v + ")", new MinorTables().vector(0, v), -2);
        }
    }

    @Sentence(promise = 9, words = "THE VECTOR: n numbers (-9 .. 9")
    static void vectorOfTheLeastAndTheGreatest(Due due) {
        for (int n = 2; n <= 4; n++) {
            MinorTables x = Due.sized(n);
            due.is("the first of " + n, x.vector(0, -9), 100);
            due.is("the last of " + n, x.vector(n - 1, 9), 100);
            due.is("of the first", x.of(1, 0), 91);
            due.is("of the last", x.of(1, n - 1), 109);
        }
    }

    @Sentence(promise = 9, words = "Number i of THE VECTOR becomes v: what it was, and 100.")
    static void vectorTellsWhatItWas(Due due) {
        MinorTables x = new MinorTables();
        due.is("was 0", x.vector(1, -9), 100);
        due.is("was -9", x.vector(1, 9), 91);
        due.is("was 9", x.vector(1, 0), 109);
        due.is("0 again", x.of(1, 1), 100);
        x.vector(1, 4);
        due.is("the one ahead of it", x.of(1, 0), 100);
        due.is("the one behind it", x.of(1, 2), 100);
    }

    @Sentence(promise = 9, words = "the first that a call's words name.")
    static void vectorNamesTheNumberFirst(Due due) {
        due.is("vector(3, 10)", new MinorTables().vector(3, 10), -1);
    }

    @Sentence(promise = 9, words = {"What is refused leaves NOTED", "What is answered so changes nothing"})
    static void vectorThatIsRefusedChangesNothing(Due due) {
        Look.staysBy(due, Look.full(), x -> x.vector(3, 1), x -> x.vector(0, 10), x -> x.vector(0, -10));
    }

    @Sentence(promise = 9, words = "since THE TABLE was last told anything")
    static void vectorLeavesNoted(Due due) {
        MinorTables x = new MinorTables();
        x.minor(1, 1);
        x.vector(0, 5);
        due.is("told(5)", x.told(5), 1);
    }

    // ---- Promise 12: of

    @Sentence(promise = 12, words = "NONE: what, spot.")
    static void ofNothingThere(Due due) {
        for (int what : new int[] {-1, 2, 3, LEAST, MOST}) {
            due.is("of(" + what + ", 0)", new MinorTables().of(what, 0), -1);
        }
        for (int n = 2; n <= 4; n++) {
            for (int spot : Due.noSpots(n)) {
                due.is("of(0, " + spot + ") of " + n, Due.sized(n).of(0, spot), -1);
            }
        }
    }

    @Sentence(promise = 12, words = "of THE VECTOR (1; spot is i)")
    static void ofNoSuchNumberOfTheVector(Due due) {
        for (int n = 2; n <= 4; n++) {
            for (int i : new int[] {-1, n, 10, 11, LEAST, MOST}) {
                due.is("of(1, " + i + ") of " + n, Due.sized(n).of(1, i), -1);
            }
            due.is("of(1, last) of " + n, Due.sized(n).of(1, n - 1), 100);
        }
    }

    @Sentence(promise = 12, words = "The number of a SPOT (what 0) or of THE VECTOR (1; spot is i), and 100.")
    static void ofLeastAndGreatest(Due due) {
        MinorTables x = Due.table(2, -99, 99, 0, -1);
        x.vector(0, -9);
        x.vector(1, 9);
        int[] due4 = {1, 199, 100, 99};
        for (int p = 0; p < 4; p++) {
            due.is("of(0, " + Due.spot(2, p) + ")", x.of(0, Due.spot(2, p)), due4[p]);
        }
        due.is("of(1, 0)", x.of(1, 0), 91);
        due.is("of(1, 1)", x.of(1, 1), 109);
    }

    @Sentence(promise = 12, words = "(10 times the row, and the column, together)")
    static void ofEachSpot(Due due) {
        MinorTables x = Due.table(4, GREAT_SQUARE);
        for (int row = 0; row < 4; row++) {
            for (int column = 0; column < 4; column++) {
                due.is("row " + row + ", column " + column, x.of(0, 10 * row + column), 101 + 4 * row + column);
            }
        }
    }

    @Sentence(promise = 12, words = "what is asked changes nothing")
    static void ofChangesNothing(Due due) {
        Look.staysBy(due, Look.full(), x -> x.of(0, 12), x -> x.of(1, 2), x -> x.of(2, 0), x -> x.of(0, 3));
    }

    // ---- Promise 13: told

    @Sentence(promise = 13, words = "NONE.")
    static void toldOfNoSuchWhat(Due due) {
        for (int what : new int[] {-1, 8, 9, LEAST, MOST}) {
            due.is("told(" + what + ")", new MinorTables().told(what), -1);
        }
    }

    @Sentence(promise = 13, words = "0 n, 1 how many CHIPS")
    static void toldOfSizesAndChips(Due due) {
        for (int n = 2; n <= 4; n++) {
            due.is("n", Due.sized(n).told(0), n);
        }
        MinorTables x = new MinorTables();
        for (int many = 0; many <= 12; many++) {
            due.is("CHIPS", x.told(1), many);
            x.chip(2, 0, 1);
        }
        due.is("no thirteenth", x.told(1), 12);
    }

    @Sentence(promise = 13, words = {"2 whether THE TABLE is POSITIVE (1, 0)", "THE TABLE is POSITIVE, if all its MINORS are"
        + " above 0."})
    static void toldNotPositiveByAMinorOfNought(Due due) {
        due.is("all above 0", Due.table(2, 1, 2, 3, 7).told(2), 1);
        due.is("the whole is 0", Due.table(2, 1, 2, 3, 6).told(2), 0);
        due.is("the whole is below 0", Due.table(2, 1, 2, 3, 5).told(2), 0);
        due.is("a number is 0", Due.table(2, 1, 0, 3, 7).told(2), 0);
        due.is("a number is below 0", Due.table(2, 1, -1, 3, 7).told(2), 0);
        due.is("both are below 0", Due.table(2, -1, -2, -3, -7).told(2), 0);
    }

    @Sentence(promise = 13, words = "THE TABLE is POSITIVE, if all its MINORS are above 0.")
    static void toldPositiveOfThreeAndFourRows(Due due) {
        due.is("three", Due.table(3, 1, 1, 1, 1, 2, 3, 1, 3, 6).told(2), 1);
        due.is("three, the whole 0", Due.table(3, 1, 1, 1, 1, 2, 3, 1, 3, 5).told(2), 0);
        due.is("three, one of two rows 0", Due.table(3, 1, 1, 1, 1, 2, 2, 1, 3, 6).told(2), 0);
        due.is("four", Due.table(4, 1, 1, 1, 1, 1, 2, 3, 4, 1, 3, 6, 10, 1, 4, 10, 20).told(2), 1);
        due.is("four, the whole 0", Due.table(4, 1, 1, 1, 1, 1, 2, 3, 4, 1, 3, 6, 10, 1, 4, 10, 19).told(2), 0);
        due.is("all above 0, but none of the whole", Due.table(4, GREAT_SQUARE).told(2), 0);
    }

    @Sentence(promise = 13, words = {"3 AMISS (-5: none)", "AMISS: the first SPOT, row by row, whose FIRST MINOR isn't above 0."})
    static void toldAmissAtTheFirstSpot(Due due) {
        due.is("none", Due.table(2, 1, 2, 3, 7).told(3), -5);
        due.is("the last, by 0", Due.table(2, 1, 2, 3, 6).told(3), 11);
        due.is("the last, by one below 0", Due.table(2, 1, 2, 3, 5).told(3), 11);
        due.is("the very first, by 0", Due.table(2, 0, 0, 0, 0).told(3), 0);
        due.is("the first row ahead of the first column", Due.table(3, 1, 1, 0, 0, 1, 1, 1, 1, 1).told(3), 2);
        due.is("a row ahead of the next", Due.table(3, 1, 1, 1, 0, 1, 1, 0, 1, 1).told(3), 10);
        due.is("in a row, the first of two", Due.table(3, 1, 1, 1, 1, 1, 1, 1, 2, 4).told(3), 11);
        due.is("of four rows, the last", Due.table(4, 1, 1, 1, 1, 1, 2, 3, 4, 1, 3, 6, 10, 1, 4, 10, 19).told(3), 33);
    }

    @Sentence(promise = 13, words = {"4 ABOVE", "ABOVE: how many MINORS are above 0."})
    static void toldAboveCountsNoNought(Due due) {
        due.is("none of 5", Due.table(2, 0, 0, 0, 0).told(4), 0);
        due.is("all of 5", Due.table(2, 1, 2, 3, 7).told(4), 5);
        due.is("4 of 5, one is 0", Due.table(2, 1, 2, 3, 6).told(4), 4);
        due.is("4 of 5, one is below 0", Due.table(2, 1, 2, 3, 5).told(4), 4);
        due.is("3 rows, all alike 1", new MinorTables().told(4), 7);
        due.is("all of 19", Due.table(3, 1, 1, 1, 1, 2, 3, 1, 3, 6).told(4), 19);
        due.is("all of 69", Due.table(4, 1, 1, 1, 1, 1, 2, 3, 4, 1, 3, 6, 10, 1, 4, 10, 20).told(4), 69);
        due.is("68 of 69", Due.table(4, 1, 1, 1, 1, 1, 2, 3, 4, 1, 3, 6, 10, 1, 4, 10, 19).told(4), 68);
    }

    @Sentence(promise = 13, words = "5 how many are NOTED")
    static void toldNotedNoneAndTheSameTwice(Due due) {
        MinorTables x = new MinorTables();
        due.is("none", x.told(5), 0);
        x.minor(1, 1);
        x.minor(1, 1);
        due.is("the same twice", x.told(5), 1);
        x.minor(1, 2);
        due.is("two", x.told(5), 2);
    }

    private static void vectorIs(MinorTables x, int... numbers) {
        for (int i = 0; i < numbers.length; i++) {
            x.vector(i, numbers[i]);
        }
    }

    @Sentence(promise = 13, words = {"6 CHANGES of THE VECTOR", "CHANGES of a row of numbers: how often, those that are 0 left"
        + " out, one above 0 is followed by one below 0, or the other way."})
    static void toldChangesLeaveNoughtOut(Due due) {
        int[][] rows = {{0, 0, 0, 0, 0}, {5, 0, 0, 0, 0}, {0, 0, 0, -5, 0}, {1, 2, 3, 4, 0}, {-1, -2, -3, -4, 0},
            {1, -1, 1, -1, 3}, {-1, 1, -1, 1, 3}, {9, 0, 0, -9, 1}, {-9, 0, 0, 9, 1}, {1, 0, 1, 0, 0}, {0, 1, 0, -1, 1},
            {0, -1, -1, 1, 1}, {1, 0, -1, -1, 1}, {1, -1, 0, 1, 2}};
        MinorTables x = Due.sized(4);
        for (int[] row : rows) {
            vectorIs(x, row[0], row[1], row[2], row[3]);
            due.is("CHANGES of " + row[0] + " " + row[1] + " " + row[2] + " " + row[3], x.told(6), row[4]);
        }
    }

    @Sentence(promise = 13, words = "7 CHANGES of THE TABLE times it (each row's numbers times its, together).")
    static void toldChangesOfTheTableTimesTheVector(Due due) {
        MinorTables x = Due.table(3, 1, 1, 1, 1, 2, 3, 1, 3, 6);
        vectorIs(x, 3, -3, 1);
        // 1, 0, 0: what is 0 is left out
        due.is("1, 0, 0", x.told(7), 0);
        due.is("of THE VECTOR", x.told(6), 2);
        vectorIs(x, -4, 5, -1);
        // 0, 3, 5
        due.is("0, 3, 5", x.told(7), 0);
        vectorIs(x, 5, -9, 3);
        // -1, -4, -4
        due.is("-1, -4, -4", x.told(7), 0);
        vectorIs(x, 7, -8, 3);
        // 2, 0, 1
        due.is("2, 0, 1", x.told(7), 0);
        vectorIs(x, -9, 9, -2);
        // -2, 3, 6
        due.is("-2, 3, 6", x.told(7), 1);
        x.turn();
        x.set(1, -99);
        x.set(20, 99);
        vectorIs(x, 9, 9, 9);
        // 9 times -97, 6, 108
        due.is("far below 0, above, far above", x.told(7), 1);
        vectorIs(x, 0, 0, 0);
        due.is("all 0", x.told(7), 0);
        MinorTables y = Due.table(2, 99, 99, 99, -99);
        vectorIs(y, 9, 9);
        due.is("greatest, 0", y.told(7), 0);
        vectorIs(y, -9, 9);
        due.is("0, least", y.told(7), 0);
        vectorIs(y, 8, -9);
        due.is("-99, 1683", y.told(7), 1);
        MinorTables z = new MinorTables();
        vectorIs(z, -1, 0, 1);
        due.is("-1, 0, 1", z.told(7), 1);
    }

    @Sentence(promise = 13, words = "what is asked changes nothing")
    static void toldChangesNothing(Due due) {
        Look.staysBy(due, Look.full(), x -> x.told(2), x -> x.told(3), x -> x.told(4), x -> x.told(5), x -> x.told(6),
            x -> x.told(7), x -> x.told(8), x -> x.told(-1));
    }
}

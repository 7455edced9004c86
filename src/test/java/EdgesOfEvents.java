/** Promises 29 to 32: events and what is after them, the book and where it is otherwise, one test for each sentence. */
final class EdgesOfEvents {
    private static final int MORE = 0, NOUGHT = 1, SWAP = 2, TURN = 3;
    private static final int LEAST = Due.LEAST, MOST = Due.MOST;

    private EdgesOfEvents() {
    }

    private static MinorTables events(MinorTables x, int... told) {
        for (int k = 0; k + 1 < told.length; k += 2) {
            x.event(told[k], told[k + 1]);
        }
        return x;
    }

    // ---- Promise 29: event

    @Sentence(promise = 29, words = "NONE: what (0 .. 3),")
    static void eventOfNoWhat(Due due) {
        for (int what : new int[] {-2, 4, 5, LEAST, MOST}) {
            due.is("event(" + what + ", 0)", new MinorTables().event(what, 0), -1);
        }
    }

    @Sentence(promise = 29, words = "SPOT n,")
    static void eventAtNoSpot(Due due) {
        for (int n = 2; n <= 4; n++) {
            for (int spot : Due.noSpots(n)) {
                due.is("event(0, " + spot + ") of " + n, Due.sized(n).event(MORE, spot), -1);
                due.is("event(1, " + spot + ") of " + n, Due.sized(n).event(NOUGHT, spot), -1);
            }
            due.is("the last SPOT of " + n, Due.sized(n).event(MORE, 11 * (n - 1)), 1);
            due.is("the last SPOT of " + n, Due.sized(n).event(NOUGHT, 11 * (n - 1)), 1);
        }
    }

    @Sentence(promise = 29, words = "row n that has one behind it;")
    static void eventOfARowWithNoneBehindIt(Due due) {
        for (int n = 2; n <= 4; n++) {
            for (int row : new int[] {-1, n - 1, n, 10, LEAST, MOST}) {
                due.is("event(2, " + row + ") of " + n, Due.sized(n).event(SWAP, row), -1);
            }
            due.is("the first row of " + n, Due.sized(n).event(SWAP, 0), 1);
            due.is("the last row but one of " + n, Due.sized(n).event(SWAP, n - 2), 1);
        }
    }

    @Sentence(promise = 29, words = {"BAD: n isn't 0 (3);", "3 rows become columns (n 0);"})
    static void eventOfATurnWithAnN(Due due) {
        for (int n : new int[] {1, -1, 2, 10, LEAST, MOST}) {
            due.is("event(3, " + n + ")", new MinorTables().event(TURN, n), -2);
        }
        due.is("event(3, 0)", new MinorTables().event(TURN, 0), 1);
    }

    @Sentence(promise = 29, words = {"FULL: 8.", "A row comes to EVENTS: how many there are", "8 rows at most): AFTER"})
    static void eventTheNinth(Due due) {
        int[][] eight = {{MORE, 22}, {NOUGHT, 0}, {SWAP, 0}, {SWAP, 1}, {TURN, 0}, {MORE, 0}, {MORE, 0}, {NOUGHT, 12}};
        MinorTables x = new MinorTables();
        for (int k = 0; k < 8; k++) {
            due.is("event " + (k + 1), x.event(eight[k][0], eight[k][1]), k + 1);
        }
        for (int what = 0; what < 4; what++) {
            due.is("the ninth, event(" + what + ", 0)", x.event(what, 0), -4);
        }
        due.is("count(1)", x.count(1), 8);
    }

    @Sentence(promise = 29, words = "(what -1: none then, 0, whatever the rest is).")
    static void eventOfWhatBelowNoughtByOne(Due due) {
        for (int rest : new int[] {0, -1, 3, 99, LEAST, MOST}) {
            MinorTables x = new MinorTables();
            due.is("event(-1, " + rest + ") of none", x.event(-1, rest), 0);
            for (int k = 0; k < 8; k++) {
                x.event(MORE, 0);
            }
            due.is("event(-1, " + rest + ") of eight", x.event(-1, rest), 0);
            due.is("count(1)", x.count(1), 0);
            due.is("nothing happens", x.after(2), 1);
            due.is("the first again", x.event(TURN, 0), 1);
        }
    }

    @Sentence(promise = 29, words = "the first that a call's words name.")
    static void eventNamesItsRefusalsInOrder(Due due) {
        MinorTables x = events(new MinorTables(), 0, 0, 0, 0, 0, 0, 0, 0, 0, 0, 0, 0, 0, 0, 0, 0);
        due.is("no such what, full", x.event(4, 1), -1);
        due.is("no SPOT, full", x.event(MORE, 3), -1);
        due.is("no row behind, full", x.event(SWAP, 2), -1);
        due.is("bad n, full", x.event(TURN, 1), -2);
    }

    @Sentence(promise = 29, words = {"What is answered so changes nothing", "What is refused leaves NOTED"})
    static void eventThatIsRefusedChangesNothing(Due due) {
        MinorTables x = Look.full();
        Look.staysBy(due, x, y -> y.event(4, 0), y -> y.event(-2, 0), y -> y.event(0, 3), y -> y.event(2, 2), y -> y.event(3, 1));
        events(x, 0, 1, 0, 1, 0, 1, 0, 1, 0, 1, 0, 1);
        Look.staysBy(due, x, y -> y.event(1, 0));
    }

    @Sentence(promise = 29, words = "EVENTS told by hand: what happens")
    static void eventChangesNoNumberByItself(Due due) {
        MinorTables x = new MinorTables();
        x.minor(1, 1);
        events(x, 0, 0, 1, 11, 2, 0, 3, 0);
        due.tableIs("as it was", x, 1, 0, 0, 0, 1, 0, 0, 0, 1);
        due.is("told(5)", x.told(5), 1);
    }

    // ---- Promise 30: after

    @Sentence(promise = 30, words = "NO: what.")
    static void afterOfNoSuchWhat(Due due) {
        for (int what : new int[] {-1, 3, 4, LEAST, MOST}) {
            due.is("after(" + what + ")", new MinorTables().after(what), Due.NO);
        }
    }

    private static void afterIs(Due due, String what, MinorTables x, long above, long amiss, long whole) {
        due.is(what + ", ABOVE", x.after(0), above);
        due.is(what + ", AMISS", x.after(1), amiss);
        due.is(what + ", the MINOR of all", x.after(2), whole);
    }

    @Sentence(promise = 30, words = {"AFTER: what 0 ABOVE, 1 AMISS (-5), 2 the MINOR of all.", "AFTER, behind all of it: ABOVE; AMISS"
        + " (-5: none); the MINOR of all rows and columns."})
    static void afterWithAndWithoutAmiss(Due due) {
        MinorTables x = Due.table(2, 1, 2, 3, 7);
        afterIs(due, "nothing happens", x, 5, -5, 1);
        events(x, MORE, 10);
        afterIs(due, "one more below", x, 4, 11, -1);
        events(x, MORE, 0);
        afterIs(due, "one more at first", x, 5, -5, 6);
        events(x, NOUGHT, 0);
        afterIs(due, "0 at first", x, 3, 0, -8);
        afterIs(due, "of three", new MinorTables(), 7, 1, 1);
        afterIs(due, "of four", Due.table(4, 1, 1, 1, 1, 1, 2, 3, 4, 1, 3, 6, 10, 1, 4, 10, 20), 69, -5, 1);
    }

    @Sentence(promise = 30, words = "(0 the number of SPOT n is 1 more, 99 at most;")
    static void afterOneMoreThanNinetyNine(Due due) {
        due.is("98 and 1", events(Due.table(2, 98, 0, 0, 1), MORE, 0).after(2), 99);
        due.is("98 and 1 and 1", events(Due.table(2, 98, 0, 0, 1), MORE, 0, MORE, 0).after(2), 99);
        due.is("99 and 1", events(Due.table(2, 99, 0, 0, 1), MORE, 0).after(2), 99);
        due.is("-99 and 1", events(Due.table(2, -99, 0, 0, 1), MORE, 0).after(2), -98);
        due.is("-1 and 1", events(Due.table(2, -1, 0, 0, 1), MORE, 0).after(2), 0);
        due.is("at the last SPOT", events(Due.sized(4), MORE, 33).after(2), 2);
    }

    @Sentence(promise = 30, words = "1 it becomes 0;")
    static void afterItBecomesNought(Due due) {
        due.is("99", events(Due.table(2, 99, 1, -1, 1), NOUGHT, 0).after(2), 1);
        due.is("-99", events(Due.table(2, -99, 1, -1, 1), NOUGHT, 0).after(2), 1);
        due.is("0", events(Due.table(2, 0, 1, -1, 1), NOUGHT, 0).after(2), 1);
        due.is("at the last SPOT", events(Due.sized(4), NOUGHT, 33).after(2), 0);
        due.is("0 and 1", events(Due.table(2, 50, 1, -1, 1), NOUGHT, 0, MORE, 0).after(2), 2);
        due.is("1 and 0", events(Due.table(2, 50, 1, -1, 1), MORE, 0, NOUGHT, 0).after(2), 1);
    }

    @Sentence(promise = 30, words = "2 rows n and n + 1 change places;")
    static void afterRowsChangePlaces(Due due) {
        MinorTables x = Due.table(3, 1, 2, 3, 4, 5, 6, 7, 8, 10);
        due.is("no events", x.after(2), -3);
        due.is("the first two", events(x, SWAP, 0).after(2), 3);
        due.is("and the last two", events(x, SWAP, 1).after(2), -3);
        // (4 5 6; 7 8 10; 1 2 3), and 0 stands where 7 stood
        due.is("row 1 is row 2 by then", events(x, NOUGHT, 10).after(2), 4 * (24 - 20) + (50 - 48));
        afterIs(due, "AMISS", events(Due.table(2, 1, 2, 3, 7), SWAP, 0), 4, 11, -1);
    }

    @Sentence(promise = 30, words = "3 rows become columns (n 0);")
    static void afterRowsBecomeColumns(Due due) {
        MinorTables x = Due.table(2, 1, 2, 0, 3);
        afterIs(due, "row 0 ahead", x, 4, 10, 3);
        afterIs(due, "column 0 ahead", events(x, TURN, 0), 4, 1, 3);
        due.is("a SPOT behind it", events(x, MORE, 1).after(2), 1);
        afterIs(due, "turned back", events(Due.table(2, 1, 2, 0, 3), TURN, 0, TURN, 0), 4, 10, 3);
    }

    @Sentence(promise = 30, words = {"what isn't there by then: nothing;", "EVENT 2 needs both rows."})
    static void afterEventsOfWhatIsNotThere(Due due) {
        MinorTables x = events(Due.sized(4), NOUGHT, 33, NOUGHT, 3, MORE, 30, SWAP, 2, SWAP, 1, MORE, 0);
        due.is("of four", x.after(2), 0);
        x.size(3);
        due.is("of three: rows 1 and 2 change places", x.after(2), -2);
        x.size(2);
        due.is("of two: row 2 isn't there", x.after(2), 2);
        due.is("ABOVE", x.after(0), 3);
        due.is("count(1)", x.count(1), 6);
        x.size(4);
        due.is("of four again", x.after(2), 0);
    }

    @Sentence(promise = 30, words = "what is asked changes nothing")
    static void afterChangesNothing(Due due) {
        Look.staysBy(due, Look.full(), x -> x.after(0), x -> x.after(1), x -> x.after(2), x -> x.after(3));
    }

    // ---- Promise 31: book

    @Sentence(promise = 31, words = "NONE: spot;")
    static void bookOfNoSpot(Due due) {
        for (int n = 2; n <= 4; n++) {
            for (int spot : Due.noSpots(n)) {
                if (spot != -1) {
                    due.is("book(" + spot + ", 0) of " + n, Due.sized(n).book(spot, 0), -1);
                }
            }
            due.is("the last SPOT of " + n, Due.sized(n).book(11 * (n - 1), 0), 1);
        }
    }

    @Sentence(promise = 31, words = "BAD: v (-99 .. 99);")
    static void bookOfANumberBeyond(Due due) {
        for (int v : new int[] {100, -100, MOST, LEAST}) {
            due.is("book(0, " + v + ")", new MinorTables().book(0, v), -2);
        }
        due.is("book(0, 99)", new MinorTables().book(0, 99), 1);
        due.is("book(0, -99)", new MinorTables().book(0, -99), 1);
    }

    @Sentence(promise = 31, words = {"FULL: 8.", "A row comes to the BOOK: how many there are", "A BOOK told by hand: SPOTS, numbers"
        + " (8 rows at most)"})
    static void bookTheNinth(Due due) {
        MinorTables x = new MinorTables();
        for (int many = 1; many <= 8; many++) {
            due.is("row " + many, x.book(22, many == 3 ? 99 : 1), many);
        }
        due.is("the ninth", x.book(0, 1), -4);
        due.is("count(2)", x.count(2), 8);
    }

    @Sentence(promise = 31, words = "(spot -1: it is empty then, 0, whatever the rest is).")
    static void bookOfSpotBelowNoughtByOne(Due due) {
        for (int rest : new int[] {0, -1, 100, -100, LEAST, MOST}) {
            MinorTables x = new MinorTables();
            due.is("book(-1, " + rest + ") of none", x.book(-1, rest), 0);
            for (int k = 0; k < 8; k++) {
                x.book(0, 5);
            }
            due.is("book(-1, " + rest + ") of eight", x.book(-1, rest), 0);
            due.is("count(2)", x.count(2), 0);
            due.is("looked()", x.looked(), -5);
            due.is("the first again", x.book(0, 5), 1);
        }
    }

    @Sentence(promise = 31, words = "the first that a call's words name.")
    static void bookNamesItsRefusalsInOrder(Due due) {
        MinorTables x = new MinorTables();
        due.is("no SPOT, bad v", x.book(3, 100), -1);
        for (int k = 0; k < 8; k++) {
            x.book(0, 1);
        }
        due.is("no SPOT, full", x.book(30, 0), -1);
        due.is("bad v, full", x.book(0, -100), -2);
    }

    @Sentence(promise = 31, words = {"What is answered so changes nothing", "What is refused leaves NOTED"})
    static void bookThatIsRefusedChangesNothing(Due due) {
        MinorTables x = Look.full();
        Look.staysBy(due, x, y -> y.book(3, 0), y -> y.book(-2, 0), y -> y.book(0, 100), y -> y.book(0, -100));
        for (int k = 2; k < 8; k++) {
            x.book(11, 5);
        }
        Look.staysBy(due, x, y -> y.book(0, 9));
    }

    @Sentence(promise = 31, words = "A row comes to the BOOK")
    static void bookChangesNoNumber(Due due) {
        MinorTables x = new MinorTables();
        x.minor(1, 1);
        x.book(0, 9);
        due.tableIs("as it was", x, 1, 0, 0, 0, 1, 0, 0, 0, 1);
        due.is("told(5)", x.told(5), 1);
    }

    // ---- Promise 32: looked

    private static MinorTables booked(MinorTables x, int... told) {
        for (int k = 0; k + 1 < told.length; k += 2) {
            x.book(told[k], told[k + 1]);
        }
        return x;
    }

    @Sentence(promise = 32, words = {"LOOKED at; -5.", "(-5: none)"})
    static void lookedAtNone(Due due) {
        due.is("an empty BOOK", new MinorTables().looked(), -5);
        due.is("all as told", booked(new MinorTables(), 0, 1, 11, 1, 12, 0).looked(), -5);
        due.is("the least and the greatest", booked(Due.table(2, -99, 99), 0, -99, 1, 99).looked(), -5);
    }

    @Sentence(promise = 32, words = "LOOKED at: the number (from 0) of the first of these rows whose SPOT isn't there, or holds another"
        + " number now")
    static void lookedAtTheFirstThatIsOtherwise(Due due) {
        due.is("the first of two", booked(new MinorTables(), 0, 2, 11, 2).looked(), 0);
        due.is("the second", booked(new MinorTables(), 0, 1, 11, 2).looked(), 1);
        due.is("the eighth", booked(new MinorTables(), 0, 1, 0, 1, 0, 1, 0, 1, 0, 1, 0, 1, 0, 1, 0, 0).looked(), 7);
        MinorTables x = booked(new MinorTables(), 0, 1, 11, 1);
        x.set(11, 2);
        due.is("another number now", x.looked(), 1);
        x.set(11, 1);
        due.is("the same again", x.looked(), -5);
    }

    @Sentence(promise = 32, words = "whose SPOT isn't there")
    static void lookedAtASpotThatIsNotThere(Due due) {
        MinorTables column = booked(new MinorTables(), 0, 1, 2, 0);
        column.size(2);
        due.is("no such column", column.looked(), 1);
        MinorTables row = booked(new MinorTables(), 20, 0, 0, 7);
        row.size(2);
        due.is("no such row", row.looked(), 0);
        MinorTables both = booked(Due.sized(4), 0, 1, 11, 1, 33, 1);
        both.size(3);
        due.is("neither", both.looked(), 2);
        both.size(4);
        due.is("there again", both.looked(), -5);
    }

    @Sentence(promise = 32, words = "what is asked changes nothing")
    static void lookedChangesNothing(Due due) {
        Look.staysBy(due, Look.full(), x -> x.looked(), x -> x.looked());
    }
}

/** Promises 34 and 35: the image, and all as it was, one test for each sentence. */
final class EdgesOfTheImage {
    private EdgesOfTheImage() {
    }

    // ---- Promise 34: image

    @Sentence(promise = 34, words = "THE IMAGE is taken: how many CHIPS.")
    static void imageTellsHowManyChips(Due due) {
        MinorTables x = new MinorTables();
        due.is("none", x.image(), 0);
        for (int many = 1; many <= 12; many++) {
            x.chip(0, 0, 1);
            due.is("image() of " + many, x.image(), many);
        }
        x.clear();
        due.is("none again", x.image(), 0);
    }

    @Sentence(promise = 34, words = "THE IMAGE is taken")
    static void imageTakenTwiceIsTheLaterOne(Due due) {
        MinorTables x = new MinorTables();
        x.set(0, 5);
        x.image();
        x.set(0, 6);
        x.image();
        x.set(0, 7);
        x.undo();
        due.is("of(0, 0)", x.of(0, 0), 106);
    }

    @Sentence(promise = 34, words = "is taken: how many CHIPS")
    static void imageChangesNothing(Due due) {
        MinorTables x = Look.full();
        Look.staysBy(due, x, y -> y.image());
        due.is("NOTED", x.told(5), 2);
    }

    // ---- Promise 35: undo

    @Sentence(promise = 35, words = "STATE: there is none.")
    static void undoWithoutAnImage(Due due) {
        due.is("new", new MinorTables().undo(), -3);
        MinorTables x = Look.full();
        Look.staysBy(due, x, y -> y.undo());
        due.is("still none", x.undo(), -3);
        due.is("taken", x.image(), 3);
        due.is("there is one", x.undo(), 3);
    }

    @Sentence(promise = 35, words = "All is as THE IMAGE: how many CHIPS.")
    static void undoTellsHowManyChipsThereAreThen(Due due) {
        MinorTables x = Due.chips(3, 0, 0, 1, 1, 1, 2);
        x.image();
        x.clear();
        due.is("two again", x.undo(), 2);
        due.is("the second", x.chipOf(1, 2), 2);
        x.chip(2, 2, 3);
        due.is("two, not three", x.undo(), 2);
        due.is("told(1)", x.told(1), 2);
    }

    @Sentence(promise = 35, words = "All is as THE IMAGE")
    static void undoTwice(Due due) {
        MinorTables x = new MinorTables();
        x.image();
        x.set(0, 5);
        due.is("undo()", x.undo(), 0);
        due.is("of(0, 0)", x.of(0, 0), 101);
        x.set(0, 6);
        due.is("undo() again", x.undo(), 0);
        due.is("of(0, 0) again", x.of(0, 0), 101);
        due.is("with nothing between", x.undo(), 0);
    }

    @Sentence(promise = 35, words = "THE IMAGE: n, THE TABLE,")
    static void undoOfRowsAndNumbers(Due due) {
        MinorTables less = Due.table(4, 1, 2, 3, 4, 5, 6, 7, 8, 9, 10, 11, 12, 13, 14, 15, 16);
        less.image();
        less.size(2);
        less.undo();
        due.tableIs("four", less, 1, 2, 3, 4, 5, 6, 7, 8, 9, 10, 11, 12, 13, 14, 15, 16);
        MinorTables more = Due.table(2, 1, 2, 3, -99);
        more.image();
        more.size(4);
        more.set(33, 9);
        more.undo();
        due.tableIs("two", more, 1, 2, 3, -99);
        due.is("no more rows", more.of(0, 20), -1);
    }

    @Sentence(promise = 35, words = "CHIPS, THE VECTOR,")
    static void undoOfChipsAndVector(Due due) {
        MinorTables x = Due.sized(4);
        x.vector(0, 9);
        x.vector(3, -9);
        for (int k = 0; k < 12; k++) {
            x.chip(k % 3, k % 3, 1 + k % 9);
        }
        x.image();
        x.size(2);
        x.chip(0, 0, 9);
        x.undo();
        for (int k = 0; k < 12; k++) {
            due.is("KIND of " + k, x.chipOf(k, 0), k % 3);
            due.is("i of " + k, x.chipOf(k, 1), k % 3);
            due.is("v of " + k, x.chipOf(k, 2), 1 + k % 9);
        }
        due.is("the first of THE VECTOR", x.of(1, 0), 109);
        due.is("the last of THE VECTOR", x.of(1, 3), 91);
        due.is("CHANGES", x.told(6), 1);
    }

    @Sentence(promise = 35, words = "NOTED, SEEN,")
    static void undoOfNotedAndSeen(Due due) {
        MinorTables x = new MinorTables();
        x.minor(1, 2);
        x.minor(7, 7);
        for (int k = 0; k < 4; k++) {
            x.see(1, 1, 8);
        }
        x.image();
        x.set(0, 1);
        x.minor(4, 4);
        x.see(-1, 0, 0);
        x.undo();
        due.is("told(5)", x.told(5), 2);
        due.is("noted(0)", x.noted(0), 102);
        due.is("noted(1)", x.noted(1), 707);
        due.is("count(0)", x.count(0), 4);
        due.is("what is SEEN", x.fits(0, 1), 108);
        x.minor(1, 1);
        x.undo();
        due.is("one more is gone", x.noted(2), -5);
    }

    @Sentence(promise = 35, words = "NOTED, SEEN, EVENTS, the BOOK.")
    static void undoOfEventsAndTheBook(Due due) {
        MinorTables x = new MinorTables();
        for (int k = 0; k < 8; k++) {
            x.event(0, 0);
            x.book(0, k < 7 ? 1 : 99);
        }
        x.image();
        x.event(-1, 0);
        x.event(1, 0);
        x.book(-1, 0);
        x.undo();
        due.is("count(1)", x.count(1), 8);
        due.is("what happens", x.after(2), 9);
        due.is("count(2)", x.count(2), 8);
        due.is("the eighth row", x.looked(), 7);
    }

    @Sentence(promise = 35, words = "All is as THE IMAGE")
    static void undoToAnImageOfNothing(Due due) {
        MinorTables x = new MinorTables();
        x.image();
        x.minor(1, 1);
        x.chip(0, 0, 1);
        x.vector(0, 1);
        x.see(1, 1, 8);
        x.event(1, 0);
        x.book(0, 9);
        due.is("undo()", x.undo(), 0);
        due.is("CHIPS", x.told(1), 0);
        due.is("NOTED", x.noted(0), -5);
        due.is("THE VECTOR", x.of(1, 0), 100);
        due.is("SEEN", x.count(0), 0);
        due.is("EVENTS", x.count(1), 0);
        due.is("the BOOK", x.count(2), 0);
    }

    @Sentence(promise = 35, words = "THE IMAGE leaves THE TEXT and the TAPES.")
    static void undoLeavesTheTextAndTheTapes(Due due) {
        MinorTables x = new MinorTables();
        x.feed('n');
        x.tape(0, 3, 2);
        x.tape(1, 1, 2);
        x.item(0, 1, 5);
        x.image();
        x.feed('2');
        x.item(0, 1, 7);
        x.tape(1, -1, 0);
        x.tape(2, 4, 3);
        x.undo();
        due.is("count(3)", x.count(3), 2);
        due.is("an item told since", x.peek(0, 1), 7);
        due.is("nothing held since", x.item(1, 0, 0), -11);
        due.is("a row since", x.peek(2, 2), 0);
        due.is("read()", x.read(), 1);
        due.is("told(0)", x.told(0), 2);
        x.undo();
        due.is("the text that was read is empty yet", x.count(3), 0);
    }
}

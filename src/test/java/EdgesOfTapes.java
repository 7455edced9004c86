/** Promises 33 and 36 to 40: rows of numbers that are judged, counts and tapes, one test for each sentence. */
final class EdgesOfTapes {
    private static final int BYTES = 0, SHORTS = 1, INTS = 2, LONGS = 3, BOOLEANS = 4;
    private static final int LEAST = Due.LEAST, MOST = Due.MOST;
    private static final int[] NO_TAPES = {-1, 6, 7, LEAST, MOST};

    private EdgesOfTapes() {
    }

    /** An object with these items on a tape of a sort. */
    private static MinorTables held(MinorTables x, int tape, int sort, long... items) {
        x.tape(tape, sort, items.length);
        for (int i = 0; i < items.length; i++) {
            x.item(tape, i, items[i]);
        }
        return x;
    }

    private static void holds(Due due, String what, MinorTables x, int tape, long... items) {
        for (int i = 0; i < items.length; i++) {
            due.is(what + ", item " + i, x.peek(tape, i), items[i]);
        }
        due.is(what + ", no more", x.peek(tape, items.length), Due.NO);
    }

    // ---- Promise 33: judge

    @Sentence(promise = 33, words = "NONE: tape;")
    static void judgeOfNoTape(Due due) {
        for (int tape : NO_TAPES) {
            due.is("judge(" + tape + ", 0)", new MinorTables().judge(tape, 0), -1);
        }
    }

    @Sentence(promise = 33, words = "CAST: it is no row of shorts.")
    static void judgeOfAnotherSort(Due due) {
        for (int sort : new int[] {BYTES, INTS, LONGS, BOOLEANS}) {
            MinorTables x = held(new MinorTables(), 0, sort, 1, 0, 0, 0, 1, 0, 0, 0, 1);
            due.is("sort " + sort, x.judge(0, 0), -12);
            due.is("sort " + sort + " at its end", x.judge(0, 9), -12);
            due.is("an empty row of sort " + sort, held(x, 1, sort).judge(1, 0), -12);
        }
    }

    @Sentence(promise = 33, words = {"JUDGED from place i of a TAPE on.", "Numbers of THE TABLE, row by row, told by a row of shorts,"
        + " from a place on, are JUDGED: the SPOT of the first that is otherwise (from that place on);"})
    static void judgeOfTheFirstThatIsOtherwise(Due due) {
        for (int n = 2; n <= 4; n++) {
            for (int p = 0; p < n * n; p++) {
                MinorTables x = Due.sized(n);
                x.tape(5, SHORTS, n * n + 2);
                for (int i = 0; i < n; i++) {
                    x.item(5, 2 + i * n + i, 1);
                }
                due.is("none is otherwise", x.judge(5, 2), -5);
                x.item(5, 2 + p, 7);
                x.item(5, 1 + n * n, 7);
                due.is("otherwise at place " + p + " of " + n, x.judge(5, 2), Due.spot(n, p));
            }
        }
    }

    @Sentence(promise = 33, words = "from that place on")
    static void judgeFromAPlaceOn(Due due) {
        MinorTables x = held(Due.table(2, 1, 2, -3, 4), 0, SHORTS, 1, 2, -3, 1, 2, -3, 4);
        due.is("the last is otherwise", x.judge(0, 0), 11);
        due.is("the first is otherwise", x.judge(0, 1), 0);
        due.is("what is ahead doesn't matter", x.judge(0, 3), -5);
        due.is("otherwise ahead of the end", x.judge(0, 5), 0);
    }

    @Sentence(promise = 33, words = "-5: none;")
    static void judgeOfNoneThatIsOtherwise(Due due) {
        MinorTables x = held(Due.table(2, -99, 99, 0, 1), 0, SHORTS, -99, 99, 0, 1);
        due.is("the row ends with the table", x.judge(0, 0), -5);
        held(x, 1, SHORTS, -99, 99, 0, 1, 77);
        due.is("what is behind doesn't matter", x.judge(1, 0), -5);
        held(x, 2, SHORTS, -99 + 65536, 99 - 65536, 65536, -65535);
        due.is("by the lowest bits", x.judge(2, 0), -5);
    }

    @Sentence(promise = 33, words = "100 and how many were looked at, if the row ends ahead of that")
    static void judgeOfARowThatEnds(Due due) {
        for (int many = 0; many < 9; many++) {
            MinorTables x = new MinorTables();
            x.tape(0, SHORTS, many);
            for (int i = 0; i < many; i += 4) {
                x.item(0, i, 1);
            }
            due.is(many + " of 9", x.judge(0, 0), 100 + many);
        }
        MinorTables y = held(new MinorTables(), 0, SHORTS, 5, 1, 0);
        due.is("two from place 1 on", y.judge(0, 1), 102);
        due.is("otherwise ahead of the end", y.judge(0, 0), 0);
    }

    @Sentence(promise = 33, words = {"(or the place is below 0, or the TAPE holds nothing).", "A place below 0 or beyond the row is"
        + " 100, ahead of CAST if nothing is held."})
    static void judgeOutsideOfARow(Due due) {
        MinorTables x = held(new MinorTables(), 0, SHORTS, 1, 0, 0, 0, 1, 0, 0, 0, 1);
        for (int place : new int[] {-1, -9, LEAST, LEAST + 1, 9, 10, 60, MOST - 1, MOST}) {
            due.is("place " + place, x.judge(0, place), 100);
        }
        for (int place : new int[] {0, -1, 1, LEAST, MOST}) {
            due.is("nothing held, place " + place, new MinorTables().judge(0, place), 100);
        }
        x.tape(0, -1, 0);
        due.is("nothing held any more", x.judge(0, 0), 100);
    }

    @Sentence(promise = 33, words = "the first that a call's words name.")
    static void judgeNamesItsRefusalsInOrder(Due due) {
        MinorTables x = held(new MinorTables(), 0, INTS, 1, 0);
        due.is("no tape, no place", x.judge(6, -1), -1);
        due.is("another sort, place below 0", x.judge(0, -1), -12);
        due.is("another sort, place beyond", x.judge(0, 3), -12);
    }

    @Sentence(promise = 33, words = "what is asked changes nothing")
    static void judgeChangesNothing(Due due) {
        Look.staysBy(due, Look.full(), x -> x.judge(0, 0), x -> x.judge(0, 1), x -> x.judge(1, 0), x -> x.judge(4, 0));
    }

    // ---- Promise 36: count

    @Sentence(promise = 36, words = "BAD.")
    static void countOfNoSuchWhat(Due due) {
        for (int what : new int[] {-1, 4, 5, LEAST, MOST}) {
            due.is("count(" + what + ")", new MinorTables().count(what), -2);
        }
    }

    @Sentence(promise = 36, words = "How many: 0 SEEN, 1 EVENTS, 2 of the BOOK, 3 bytes of THE TEXT.")
    static void countOfNoneAndOfAsManyAsThereCanBe(Due due) {
        MinorTables x = new MinorTables();
        for (int what = 0; what < 4; what++) {
            due.is("none, count(" + what + ")", x.count(what), 0);
        }
        for (int k = 0; k < 101; k++) {
            x.feed('z');
            x.see(1, 1, 1);
            x.event(0, 0);
            x.book(0, 0);
        }
        int[] most = {4, 8, 8, 100};
        for (int what = 0; what < 4; what++) {
            due.is("count(" + what + ")", x.count(what), most[what]);
        }
    }

    @Sentence(promise = 36, words = "what is asked changes nothing")
    static void countChangesNothing(Due due) {
        Look.staysBy(due, Look.full(), x -> x.count(0), x -> x.count(1), x -> x.count(2), x -> x.count(3), x -> x.count(4));
    }

    // ---- Promise 37: tape

    @Sentence(promise = 37, words = "NONE: tape;")
    static void tapeOfNoTape(Due due) {
        for (int tape : NO_TAPES) {
            due.is("tape(" + tape + ", 0, 1)", new MinorTables().tape(tape, BYTES, 1), -1);
            due.is("tape(" + tape + ", -1, 1)", new MinorTables().tape(tape, -1, 1), -1);
        }
    }

    @Sentence(promise = 37, words = "BAD: sort, n above 60;")
    static void tapeOfNoSortOrTooLong(Due due) {
        for (int sort : new int[] {-2, 5, 6, LEAST, MOST}) {
            due.is("tape(0, " + sort + ", 1)", new MinorTables().tape(0, sort, 1), -2);
        }
        for (int n : new int[] {61, 62, MOST}) {
            due.is("tape(0, 0, " + n + ")", new MinorTables().tape(0, BYTES, n), -2);
        }
    }

    @Sentence(promise = 37, words = {"SIZE.", "SIZE (-14): a size below 0."})
    static void tapeOfASizeBelowNought(Due due) {
        for (int sort = 0; sort < 5; sort++) {
            for (int n : new int[] {-1, -60, LEAST}) {
                due.is("tape(0, " + sort + ", " + n + ")", new MinorTables().tape(0, sort, n), -14);
            }
        }
    }

    @Sentence(promise = 37, words = "the first that a call's words name.")
    static void tapeNamesItsRefusalsInOrder(Due due) {
        due.is("no tape, no sort", new MinorTables().tape(6, 5, 1), -1);
        due.is("no tape, n above 60", new MinorTables().tape(-1, 0, 61), -1);
        due.is("no tape, n below 0", new MinorTables().tape(6, 0, -1), -1);
        due.is("no sort, n below 0", new MinorTables().tape(0, 5, -1), -2);
        due.is("no sort, n below 0", new MinorTables().tape(0, -2, LEAST), -2);
    }

    @Sentence(promise = 37, words = {"A TAPE becomes a row of n (0 .. 60) of a sort, all 0,", "or a row of 0 bytes, 1 shorts, 2 ints,"
        + " 3 longs, 4 booleans (items 0, 1)."})
    static void tapeOfNoneAndOfSixty(Due due) {
        MinorTables x = new MinorTables();
        for (int sort = 0; sort < 5; sort++) {
            due.is("a row of 0", x.tape(sort, sort, 0), 1);
            due.is("it has no item", x.peek(sort, 0), Due.NO);
            due.is("no place", x.item(sort, 0, 1), -13);
            due.is("a row of 60", x.tape(sort, sort, 60), 1);
            due.is("its last", x.item(sort, 59, 1), 1);
            due.is("none behind it", x.item(sort, 60, 1), -13);
            due.is("a row again", x.tape(sort, sort, 60), 1);
            for (int i = 0; i < 60; i++) {
                due.is("all 0", x.peek(sort, i), 0);
            }
        }
    }

    @Sentence(promise = 37, words = "all 0,")
    static void tapeBecomesAllNoughtAgain(Due due) {
        MinorTables x = held(new MinorTables(), 3, LONGS, 7, 8, 9);
        x.tape(3, SHORTS, 2);
        holds(due, "shorter, another sort", x, 3, 0, 0);
        x.tape(3, SHORTS, 4);
        holds(due, "longer", x, 3, 0, 0, 0, 0);
    }

    @Sentence(promise = 37, words = "or holds nothing (sort -1: n does not matter): 1.")
    static void tapeThatHoldsNothing(Due due) {
        for (int n : new int[] {0, -1, 61, LEAST, MOST}) {
            MinorTables x = held(new MinorTables(), 0, LONGS, 7);
            due.is("tape(0, -1, " + n + ")", x.tape(0, -1, n), 1);
            due.is("item", x.item(0, 0, 1), -11);
            due.is("peek", x.peek(0, 0), Due.NO);
        }
    }

    @Sentence(promise = 37, words = "TAPES 0 .. 5")
    static void tapeOfTheFirstAndTheLast(Due due) {
        MinorTables x = new MinorTables();
        due.is("the first", x.tape(0, INTS, 2), 1);
        due.is("the last", x.tape(5, BYTES, 1), 1);
        x.item(5, 0, 9);
        holds(due, "the first", x, 0, 0, 0);
        holds(due, "the last", x, 5, 9);
        due.is("another one", x.item(4, 0, 1), -11);
    }

    @Sentence(promise = 37, words = "What is answered so changes nothing")
    static void tapeThatIsRefusedChangesNothing(Due due) {
        Look.staysBy(due, Look.full(), x -> x.tape(0, 5, 1), x -> x.tape(0, -2, 1), x -> x.tape(0, 1, 61), x -> x.tape(0, 1, -1),
            x -> x.tape(6, 1, 1), x -> x.tape(4, 3, MOST));
    }

    // ---- Promise 38: item

    @Sentence(promise = 38, words = "NONE;")
    static void itemOfNoTape(Due due) {
        for (int tape : NO_TAPES) {
            due.is("item(" + tape + ", 0, 1)", new MinorTables().item(tape, 0, 1), -1);
        }
    }

    @Sentence(promise = 38, words = {"NOTHING;", "NOTHING (-11): nothing is there;"})
    static void itemOfATapeThatHoldsNothing(Due due) {
        for (int i : new int[] {0, -1, 1, MOST, LEAST}) {
            due.is("item(0, " + i + ", 1)", new MinorTables().item(0, i, 1), -11);
        }
    }

    @Sentence(promise = 38, words = {"PLACE.", "PLACE (-13): no such place;"})
    static void itemOfNoSuchPlace(Due due) {
        for (int sort = 0; sort < 5; sort++) {
            for (int i : new int[] {-1, 2, 3, 60, LEAST, MOST}) {
                due.is("item(0, " + i + ", 1)", held(new MinorTables(), 0, sort, 0, 0).item(0, i, 1), -13);
            }
        }
        due.is("of a row of 0", held(new MinorTables(), 0, BYTES).item(0, 0, 1), -13);
    }

    @Sentence(promise = 38, words = "Item i of a TAPE becomes v")
    static void itemOfTheFirstAndTheLastPlace(Due due) {
        MinorTables x = held(new MinorTables(), 0, INTS, 1, 2, 3);
        due.is("the first", x.item(0, 0, 7), 1);
        due.is("the last", x.item(0, 2, 9), 1);
        holds(due, "between them", x, 0, 7, 2, 9);
        x.tape(1, LONGS, 60);
        due.is("the sixtieth", x.item(1, 59, 5), 1);
        due.is("peek", x.peek(1, 59), 5);
    }

    @Sentence(promise = 38, words = "(its lowest bits, as many as an item has;")
    static void itemByItsLowestBits(Due due) {
        long[] told = {127, 128, 255, 256, -128, -129, 32767, 32768, 65535, 65536, -32768, -32769, MOST, 1L + MOST, LEAST, LEAST - 1L,
            0xFFFFFFFFL, 1L << 32, Long.MAX_VALUE, Long.MIN_VALUE, -1};
        for (long v : told) {
            MinorTables x = new MinorTables();
            due.is("a byte of " + v, held(x, 0, BYTES, v).peek(0, 0), (byte) v);
            due.is("a short of " + v, held(x, 1, SHORTS, v).peek(1, 0), (short) v);
            due.is("an int of " + v, held(x, 2, INTS, v).peek(2, 0), (int) v);
            due.is("a long of " + v, held(x, 3, LONGS, v).peek(3, 0), v);
        }
        due.is("128 as a byte", held(new MinorTables(), 0, BYTES, 128).peek(0, 0), -128);
        due.is("32768 as a short", held(new MinorTables(), 0, SHORTS, 32768).peek(0, 0), -32768);
        due.is("65536 as a short", held(new MinorTables(), 0, SHORTS, 65536).peek(0, 0), 0);
    }

    @Sentence(promise = 38, words = "booleans: whether v is not 0): 1.")
    static void itemOfBooleans(Due due) {
        for (long v : new long[] {1, -1, 2, 256, 1L << 32, Long.MIN_VALUE, Long.MAX_VALUE}) {
            due.is("a boolean of " + v, held(new MinorTables(), 0, BOOLEANS, v).peek(0, 0), 1);
        }
        MinorTables x = held(new MinorTables(), 0, BOOLEANS, 1, 1);
        due.is("item(0, 0, 0)", x.item(0, 0, 0), 1);
        holds(due, "0 again", x, 0, 0, 1);
    }

    @Sentence(promise = 38, words = "the first that a call's words name.")
    static void itemNamesItsRefusalsInOrder(Due due) {
        due.is("no tape, no place", new MinorTables().item(6, -1, 1), -1);
        due.is("nothing, no place", new MinorTables().item(5, -1, 1), -11);
    }

    @Sentence(promise = 38, words = "What is answered so changes nothing")
    static void itemThatIsRefusedChangesNothing(Due due) {
        Look.staysBy(due, Look.full(), x -> x.item(0, 2, 9), x -> x.item(0, -1, 9), x -> x.item(1, 0, 9), x -> x.item(6, 0, 9));
    }

    // ---- Promise 39: peek

    @Sentence(promise = 39, words = "NO: no such TAPE, nothing there, no such place.")
    static void peekAtNoTapeNothingNoPlace(Due due) {
        for (int tape : NO_TAPES) {
            due.is("peek(" + tape + ", 0)", new MinorTables().peek(tape, 0), Due.NO);
        }
        for (int i : new int[] {0, -1, 1, LEAST, MOST}) {
            due.is("nothing there, peek(0, " + i + ")", new MinorTables().peek(0, i), Due.NO);
        }
        for (int i : new int[] {-1, 2, 60, LEAST, MOST}) {
            due.is("no such place, peek(0, " + i + ")", held(new MinorTables(), 0, INTS, 7, 8).peek(0, i), Due.NO);
        }
        due.is("a row of 0", held(new MinorTables(), 0, INTS).peek(0, 0), Due.NO);
    }

    @Sentence(promise = 39, words = "Item i of a TAPE.")
    static void peekAtTheFirstAndTheLast(Due due) {
        MinorTables x = held(new MinorTables(), 0, LONGS, Long.MIN_VALUE, 7, Long.MAX_VALUE);
        due.is("the least is like NO", x.peek(0, 0), Long.MIN_VALUE);
        due.is("the middle one", x.peek(0, 1), 7);
        due.is("the greatest", x.peek(0, 2), Long.MAX_VALUE);
        due.is("none behind it", x.peek(0, 3), Due.NO);
    }

    @Sentence(promise = 39, words = "what is asked changes nothing")
    static void peekChangesNothing(Due due) {
        Look.staysBy(due, Look.full(), x -> x.peek(0, 1), x -> x.peek(0, 2), x -> x.peek(1, 0), x -> x.peek(6, 0));
    }

    // ---- Promise 40: shift

    @Sentence(promise = 40, words = "NONE: tapes;")
    static void shiftOfNoTapes(Due due) {
        for (int tape : NO_TAPES) {
            MinorTables x = held(new MinorTables(), 0, INTS, 1, 2);
            due.is("from " + tape, x.shift(tape, 0, 0, 0, 1), -1);
            due.is("to " + tape, x.shift(0, 0, tape, 0, 1), -1);
        }
    }

    @Sentence(promise = 40, words = "NOTHING;")
    static void shiftOfNothing(Due due) {
        MinorTables x = held(new MinorTables(), 0, INTS, 1, 2);
        due.is("from nothing", x.shift(1, 0, 0, 0, 1), -11);
        due.is("to nothing", x.shift(0, 0, 1, 0, 1), -11);
        due.is("none of nothing", x.shift(1, 0, 1, 0, 0), -11);
        due.is("none to nothing", x.shift(0, 0, 1, 0, 0), -11);
    }

    @Sentence(promise = 40, words = {"CAST: of unlike sorts;", "The host's refusals: NOTHING (-11): nothing is there; CAST (-12): another"
        + " sort;"})
    static void shiftOfUnlikeSorts(Due due) {
        for (int sort = 0; sort < 5; sort++) {
            for (int other = 0; other < 5; other++) {
                MinorTables x = held(held(new MinorTables(), 0, sort, 1, 1), 1, other, 0, 0);
                due.is(sort + " to " + other, x.shift(0, 0, 1, 0, 1), sort == other ? 1 : -12);
                due.is("the first", x.peek(1, 0), sort == other ? 1 : 0);
            }
        }
    }

    @Sentence(promise = 40, words = "PLACE: n, i or j is below 0, or beyond either's end.")
    static void shiftBeyondEitherEnd(Due due) {
        int[][] places = {{-1, 0, 1}, {0, -1, 1}, {0, 0, -1}, {-1, -1, 0}, {-1, 0, 0}, {0, -1, 0}, {0, 0, 4}, {2, 0, 3}, {4, 0, 1},
            {5, 0, 0}, {0, 2, 2}, {0, 3, 1}, {0, 4, 0}, {MOST, 0, 1}, {0, MOST, 1}, {0, 0, MOST}, {1, 1, MOST}, {MOST, MOST, MOST},
            {LEAST, 0, 1}, {0, LEAST, 1}, {0, 0, LEAST}, {LEAST, LEAST, LEAST}, {MOST, 0, LEAST}, {-1, 1, 2}, {1, -1, 2},
            {2, 2, -1}};
        for (int[] p : places) {
            MinorTables x = held(held(new MinorTables(), 0, INTS, 1, 2, 3, 4), 1, INTS, 7, 8, 9);
            due.is("shift(0, " + p[0] + ", 1, " + p[1] + ", " + p[2] + ")", x.shift(0, p[0], 1, p[1], p[2]), -13);
            holds(due, "as it was", x, 1, 7, 8, 9);
            holds(due, "as it was", x, 0, 1, 2, 3, 4);
        }
    }

    @Sentence(promise = 40, words = {"n items of a TAPE from i on come to another one", "or beyond either's end"})
    static void shiftUpToEitherEnd(Due due) {
        MinorTables x = held(held(new MinorTables(), 0, INTS, 1, 2, 3, 4), 5, INTS, 7, 8, 9);
        due.is("from the end of one to the end of the other", x.shift(0, 2, 5, 1, 2), 2);
        holds(due, "came", x, 5, 7, 3, 4);
        holds(due, "stays", x, 0, 1, 2, 3, 4);
        due.is("a whole one", x.shift(5, 0, 0, 1, 3), 3);
        holds(due, "came", x, 0, 1, 7, 3, 4);
        due.is("none from the end to the end", x.shift(0, 4, 5, 3, 0), 0);
        due.is("none from the start to the start", x.shift(0, 0, 5, 0, 0), 0);
        due.is("none of rows of 0", held(held(new MinorTables(), 0, BYTES), 1, BYTES).shift(0, 0, 1, 0, 0), 0);
        MinorTables most = new MinorTables();
        most.tape(0, BYTES, 60);
        most.tape(1, BYTES, 60);
        most.item(0, 59, 5);
        due.is("sixty", most.shift(0, 0, 1, 0, 60), 60);
        due.is("the last", most.peek(1, 59), 5);
    }

    @Sentence(promise = 40, words = "(or the same) from j on, as they all were before: n.")
    static void shiftWithinOneTape(Due due) {
        int[][] shifts = {{0, 2, 4}, {2, 0, 4}, {0, 1, 5}, {1, 0, 5}, {1, 1, 3}, {0, 0, 6}, {0, 3, 3}, {3, 0, 3}, {0, 5, 1}};
        for (int sort = 0; sort < 4; sort++) {
            for (int[] s : shifts) {
                MinorTables x = held(new MinorTables(), 0, sort, 1, 2, 3, 4, 5, 6);
                long[] want = {1, 2, 3, 4, 5, 6};
                for (int i = 0; i < s[2]; i++) {
                    want[s[1] + i] = s[0] + i + 1;
                }
                due.is("shift(0, " + s[0] + ", 0, " + s[1] + ", " + s[2] + ")", x.shift(0, s[0], 0, s[1], s[2]), s[2]);
                holds(due, "as they were before", x, 0, want);
            }
        }
        MinorTables b = held(new MinorTables(), 0, BOOLEANS, 1, 0, 0, 1);
        b.shift(0, 0, 0, 1, 3);
        holds(due, "booleans", b, 0, 1, 1, 0, 0);
    }

    @Sentence(promise = 40, words = "the first that a call's words name.")
    static void shiftNamesItsRefusalsInOrder(Due due) {
        MinorTables x = held(held(new MinorTables(), 0, INTS, 1, 2), 1, LONGS, 1, 2);
        due.is("no tape, nothing", x.shift(6, 0, 2, 0, 1), -1);
        due.is("nothing, no tape", x.shift(2, 0, 6, 0, 1), -1);
        due.is("no tape, no place", x.shift(-1, -1, 0, 0, 1), -1);
        due.is("nothing, no place", x.shift(2, -1, 0, 9, -1), -11);
        due.is("to nothing, no place", x.shift(0, 9, 2, 0, 1), -11);
        due.is("unlike sorts, no place", x.shift(0, 9, 1, -1, -1), -12);
    }

    @Sentence(promise = 40, words = "What is answered so changes nothing")
    static void shiftThatIsRefusedChangesNothing(Due due) {
        Look.staysBy(due, Look.full(), x -> x.shift(0, 1, 0, 0, 2), x -> x.shift(0, 0, 4, 0, 1), x -> x.shift(1, 0, 0, 0, 1),
            x -> x.shift(0, 0, 6, 0, 1), x -> x.shift(0, 0, 0, 0, -1));
    }
}

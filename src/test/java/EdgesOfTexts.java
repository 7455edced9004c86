/** Promises 10 and 11: the text and the set-ups read from it, one test for each sentence. */
final class EdgesOfTexts {
    private static final int LEAST = Due.LEAST, MOST = Due.MOST;
    private static final String TWELVE_LONGEST = "a00-99;a01-98;a02-97;a10-96;a11-95;a12-94;a20-93;a21-92;a22-91;a00-90"
        + ";a01-89;a02-88";

    private EdgesOfTexts() {
    }

    // ---- Promise 10: feed

    @Sentence(promise = 10, words = {"BAD; FULL.", "A sign (0 .. 127)"})
    static void feedOfNoSign(Due due) {
        for (int sign : new int[] {-1, 128, 255, LEAST, MOST}) {
            due.is("feed(" + sign + ")", new MinorTables().feed(sign), -2);
        }
    }

    @Sentence(promise = 10, words = "A sign (0 .. 127) comes behind THE TEXT's: how many it has.")
    static void feedOfTheFirstAndTheLastSign(Due due) {
        MinorTables x = new MinorTables();
        due.is("feed(0)", x.feed(0), 1);
        due.is("feed(127)", x.feed(127), 2);
        due.is("count(3)", x.count(3), 2);
        due.is("sign 0 begins none", x.read(), -10);
        x.feed('z');
        x.feed(127);
        due.is("sign 127 behind z", x.read(), -11);
    }

    @Sentence(promise = 10, words = "FULL")
    static void feedOfTheHundredAndFirst(Due due) {
        MinorTables x = new MinorTables();
        for (int many = 1; many <= 100; many++) {
            due.is("feed of sign " + many, x.feed('z'), many);
        }
        due.is("one more", x.feed('z'), -4);
        due.is("count(3)", x.count(3), 100);
        x.read();
        due.is("behind read()", x.feed('z'), 1);
    }

    @Sentence(promise = 10, words = "(bytes, 100 at most)")
    static void feedOfExactlyAHundred(Due due) {
        MinorTables x = new MinorTables();
        for (int many = 1; many < 100; many++) {
            x.feed('z');
        }
        due.is("the hundredth", x.feed('z'), 100);
        due.is("the hundred and first", x.feed('z'), -4);
    }

    @Sentence(promise = 10, words = "the first that a call's words name.")
    static void feedNamesBadFirst(Due due) {
        MinorTables x = new MinorTables();
        for (int many = 1; many <= 100; many++) {
            x.feed('z');
        }
        due.is("feed(128) of a full one", x.feed(128), -2);
        due.is("feed(-1) of a full one", x.feed(-1), -2);
    }

    @Sentence(promise = 10, words = "What is answered so changes nothing")
    static void feedThatIsRefusedChangesNothing(Due due) {
        MinorTables x = new MinorTables();
        x.feed('n');
        x.feed(128);
        x.feed(-1);
        x.feed('2');
        due.is("count(3)", x.count(3), 2);
        due.is("read()", x.read(), 1);
        due.is("told(0)", x.told(0), 2);
        Look.staysBy(due, Look.full(), y -> y.feed(128), y -> y.feed(-1));
        MinorTables full = new MinorTables();
        for (int k = 0; k < 100; k++) {
            full.feed(k < 83 ? TWELVE_LONGEST.charAt(k) : ';');
        }
        full.feed('z');
        due.is("a full one's FAULT", full.read(), -10 - 83);
    }

    // ---- Promise 11: read, FAULTS

    private static void fault(Due due, String text, int place) {
        MinorTables x = Due.table(3, 50);
        x.minor(1, 1);
        due.is("read() of '" + text + "'", Due.read(x, text), -10 - place);
        due.is("nothing is done by '" + text + "'", x.of(0, 0), 150);
        due.is("NOTED stays by '" + text + "'", x.told(5), 1);
    }

    private static void done(Due due, String text, int many) {
        due.is("read() of '" + text + "'", Due.read(new MinorTables(), text), many);
    }

    @Sentence(promise = 11, words = "an empty THE TEXT has its FAULT at 0;")
    static void readOfAnEmptyText(Due due) {
        fault(due, "", 0);
        MinorTables x = new MinorTables();
        Due.read(x, "z");
        due.is("read() again", x.read(), -10);
    }

    @Sentence(promise = 11, words = {"-10 less the FAULT.", "The FAULT: the place of the first byte with which none begins so"})
    static void readOfAFirstByteThatBeginsNone(Due due) {
        for (char sign : new char[] {0, ' ', ';', '-', '0', '9', 'A', 'N', 'b', 'c', 'e', 'g', 'm', 'o', 's', 'u', 'w', '{', 127}) {
            fault(due, sign + "z", 0);
        }
        for (char sign : new char[] {'z', 't', 'f'}) {
            done(due, "" + sign, 1);
        }
    }

    @Sentence(promise = 11, words = "the place of the first byte with which none begins so")
    static void readOfTwoFaultsTellsTheFirst(Due due) {
        fault(due, "z;a00x;q", 5);
        fault(due, "f;n2;a11--;;", 9);
        fault(due, "n2;a005;!", 8);
        fault(due, "a0050;t;n5;v0999", 15);
    }

    @Sentence(promise = 11, words = "(the end of THE TEXT, if it ends too early)")
    static void readOfATextThatEndsTooEarly(Due due) {
        String[] early = {"n", "a", "a0", "a00", "a00-", "x", "x0", "x0-", "y", "y0", "y0-", "d", "d0", "d0-", "v", "v0", "v0-",
            "z;", "t;", "f;", "n2;", "a005;", "z;a0"};
        for (String text : early) {
            fault(due, text, text.length());
        }
    }

    @Sentence(promise = 11, words = {"CLAUSES, 1 to 12, with ; between:", "A set-up is read from THE TEXT"})
    static void readOfOneAndOfTwelveClauses(Due due) {
        done(due, "z", 1);
        done(due, "z;z", 2);
        done(due, "z;z;z;z;z;z;z;z;z;z;z;z", 12);
        MinorTables x = new MinorTables();
        due.is("twelve of the longest", Due.read(x, TWELVE_LONGEST), 12);
        due.tableIs("the longest", x, -90, -89, -88, -96, -95, -94, -93, -92, -91);
        fault(due, ";z", 0);
        fault(due, "z;;z", 2);
        fault(due, "zz", 1);
        fault(due, "z,z", 1);
    }

    @Sentence(promise = 11, words = "A thirteenth CLAUSE is a FAULT at the ; ahead of it;")
    static void readOfAThirteenthClause(Due due) {
        String twelve = "z;z;z;z;z;z;z;z;z;z;z;z";
        fault(due, twelve + ";z", 23);
        fault(due, twelve + ";", 23);
        fault(due, twelve + ";q", 23);
        fault(due, TWELVE_LONGEST + ";a00-99", 83);
        fault(due, TWELVE_LONGEST + ";a00-99;a00-99;a0", 83);
    }

    @Sentence(promise = 11, words = "n DIGIT (as size())")
    static void readOfN(Due due) {
        fault(due, "n;", 1);
        fault(due, "nz", 1);
        fault(due, "n-2", 1);
        fault(due, "n22", 2);
        fault(due, "n/", 1);
        fault(due, "n:", 1);
        MinorTables x = Due.table(3, 50);
        due.is("n2", Due.read(x, "n2"), 1);
        due.tableIs("n2", x, 1, 0, 0, 1);
        due.is("n4", Due.read(x, "n4"), 1);
        due.is("of 4", x.told(0), 4);
        for (String text : new String[] {"n0", "n1", "n5", "n9"}) {
            due.is(text, Due.read(x, text), 0);
        }
        due.is("4 yet", x.told(0), 4);
    }

    @Sentence(promise = 11, words = "a DIGIT DIGIT NUMBER (row, column; as set())")
    static void readOfA(Due due) {
        fault(due, "a;", 1);
        fault(due, "a-", 1);
        fault(due, "a0;", 2);
        fault(due, "a0-", 2);
        fault(due, "a00;", 3);
        fault(due, "a00+1", 3);
        MinorTables x = new MinorTables();
        due.is("a0199;a10-99;a227", Due.read(x, "a0199;a10-99;a227"), 3);
        due.tableIs("row, column", x, 1, 99, 0, -99, 1, 0, 0, 0, 7);
    }

    @Sentence(promise = 11, words = "x DIGIT NUMBER, y DIGIT NUMBER, d DIGIT NUMBER (i, v: a CHIP of KIND 0, 1, 2, as chip());")
    static void readOfChips(Due due) {
        for (String letter : new String[] {"x", "y", "d"}) {
            fault(due, letter + ";", 1);
            fault(due, letter + "-1", 1);
            fault(due, letter + "0;", 2);
            fault(due, letter + "0a", 2);
            fault(due, letter + "0123", 4);
        }
        MinorTables x = new MinorTables();
        due.is("x11;y19;d25", Due.read(x, "x11;y19;d25"), 3);
        int[] told = {0, 1, 1, 1, 1, 9, 2, 2, 5};
        for (int k = 0; k < 9; k++) {
            due.is("chipOf(" + k / 3 + ", " + k % 3 + ")", x.chipOf(k / 3, k % 3), told[k]);
        }
    }

    @Sentence(promise = 11, words = "z (no CHIPS any more)")
    static void readOfZ(Due due) {
        fault(due, "z1", 1);
        MinorTables x = Due.chips(3, 2, 0, 3);
        due.is("z", Due.read(x, "z"), 1);
        due.is("told(1)", x.told(1), 0);
        due.is("z with none", Due.read(x, "z"), 1);
    }

    @Sentence(promise = 11, words = "t (as take())")
    static void readOfT(Due due) {
        fault(due, "t0", 1);
        MinorTables x = Due.chips(2, 0, 0, 9);
        due.is("t", Due.read(x, "t"), 1);
        due.tableIs("taken", x, 1, 9, 0, 1);
        due.is("t that is STATE", Due.read(x, "d09;d09;d09;t"), 3);
        due.tableIs("not taken", x, 1, 9, 0, 1);
        due.is("its CHIPS stay", x.told(1), 4);
    }

    @Sentence(promise = 11, words = "f (as flip())")
    static void readOfF(Due due) {
        fault(due, "f0", 1);
        MinorTables x = Due.table(2, 1, 2, 3, 4);
        due.is("f", Due.read(x, "f"), 1);
        due.tableIs("f", x, 4, 3, 2, 1);
    }

    @Sentence(promise = 11, words = "v DIGIT NUMBER (that number of THE VECTOR; refused, if there is none such, or NUMBER isn't"
        + " -9 .. 9).")
    static void readOfV(Due due) {
        fault(due, "v;", 1);
        fault(due, "v0;", 2);
        fault(due, "v0100", 4);
        MinorTables x = new MinorTables();
        due.is("the least and the greatest", Due.read(x, "v0-9;v29"), 2);
        due.is("of(1, 0)", x.of(1, 0), 91);
        due.is("of(1, 2)", x.of(1, 2), 109);
        for (String text : new String[] {"v31", "v91", "v010", "v0-10", "v099", "v0-99"}) {
            due.is(text, Due.read(x, text), 0);
        }
        due.is("of(1, 0) yet", x.of(1, 0), 91);
        x.size(2);
        due.is("v2 of two", Due.read(x, "v21"), 0);
        x.size(4);
        due.is("v3 of four", Due.read(x, "v31"), 1);
    }

    @Sentence(promise = 11, words = "NUMBER: perhaps - ahead, 1 or 2 digits.")
    static void readOfNumbers(Due due) {
        fault(due, "a00--1", 4);
        fault(due, "a00-;", 4);
        fault(due, "a00123", 5);
        fault(due, "a00-123", 6);
        fault(due, "a001-", 4);
        fault(due, "a00+1", 3);
        String[] texts = {"a120", "a129", "a1210", "a1299", "a12-1", "a12-9", "a12-10", "a12-99"};
        int[] numbers = {0, 9, 10, 99, -1, -9, -10, -99};
        for (int k = 0; k < texts.length; k++) {
            MinorTables x = Due.table(3, 0, 0, 0, 0, 0, 55);
            due.is(texts[k], Due.read(x, texts[k]), 1);
            due.is("of " + texts[k], x.of(0, 12), 100 + numbers[k]);
        }
    }

    @Sentence(promise = 11, words = "noughts ahead and -0 are allowed, and")
    static void readOfNoughtsAhead(Due due) {
        String[] texts = {"a0007", "a00-07", "a0000", "a00-0", "a00-00", "v005", "v0-0", "v0-00", "x001", "y009", "d005"};
        for (String text : texts) {
            done(due, text, 1);
        }
        MinorTables x = new MinorTables();
        Due.read(x, "a0007;a01-07;a02-0;a11-00;v009;d004");
        due.is("07", x.of(0, 0), 107);
        due.is("-07", x.of(0, 1), 93);
        due.is("-0", x.of(0, 2), 100);
        due.is("-00", x.of(0, 11), 100);
        due.is("09", x.of(1, 0), 109);
        due.is("04", x.chipOf(0, 2), 4);
    }

    @Sentence(promise = 11, words = "Nothing else stands between (no blanks).")
    static void readOfBlanks(Due due) {
        fault(due, " z", 0);
        fault(due, "z ", 1);
        fault(due, "z ;z", 1);
        fault(due, "z; z", 2);
        fault(due, "n 2", 1);
        fault(due, "n2 ", 2);
        fault(due, "a 001", 1);
        fault(due, "a0 01", 2);
        fault(due, "a00 1", 3);
        fault(due, "a00- 1", 4);
        fault(due, "v0 1", 2);
        fault(due, "v01 ", 3);
        fault(due, "z\n", 1);
        fault(due, "z\t;z", 1);
    }

    // ---- Promise 11: read, what is done

    @Sentence(promise = 11, words = "THE TEXT, which is empty then (by a FAULT, too), is a set-up")
    static void readLeavesAnEmptyText(Due due) {
        for (String text : new String[] {"z", "zz", "q", "n", "n9", TWELVE_LONGEST + ";"}) {
            MinorTables x = new MinorTables();
            Due.read(x, text);
            due.is("count(3) behind '" + text + "'", x.count(3), 0);
            due.is("feed behind '" + text + "'", x.feed('f'), 1);
            due.is("read() behind '" + text + "'", x.read(), 1);
        }
    }

    @Sentence(promise = 11, words = "Without it they are done, one behind the other")
    static void readDoesThemOneBehindTheOther(Due due) {
        MinorTables x = new MinorTables();
        due.is("n2 ahead of a33", Due.read(x, "a229;n2;a225;a117;f"), 4);
        due.tableIs("of two", x, 7, 0, 0, 1);
        due.is("n4 ahead of a33", Due.read(x, "n4;a337;x25;x25;v3-1"), 5);
        due.is("a33", x.of(0, 33), 107);
        due.is("v3", x.of(1, 3), 99);
        due.is("n behind them", Due.read(x, "x01;v01;n4"), 3);
        due.is("no CHIPS", x.told(1), 0);
        due.is("no number", x.of(1, 0), 100);
        due.is("chips, z, t", Due.read(x, "d09;z;d19;t"), 4);
        due.is("row 0", x.of(0, 0), 101);
        due.is("row 1", x.of(0, 11), 109);
    }

    @Sentence(promise = 11, words = "Without it they are done")
    static void readWithAFaultDoesNone(Due due) {
        MinorTables x = Look.full();
        x.feed(';');
        Look.staysBy(due, x, y -> Due.read(y, "n2;x01;a005;v05;f;t;z;q"), y -> y.feed('z'), y -> y.feed(';'));
    }

    @Sentence(promise = 11, words = {"how many CLAUSES were done", "those that would be refused aren't."})
    static void readCountsThoseThatAreDone(Due due) {
        done(due, "n9", 0);
        done(due, "n9;a001", 1);
        done(due, "a001;n9", 1);
        done(due, "n2;a221;a111;v21;v11;x11;x01;y10;d21;d11;t;f", 7);
        done(due, "z;t;f;z;t;f", 6);
    }

    @Sentence(promise = 11, words = "a SPOT that is not there,")
    static void readOfASpotThatIsNotThere(Due due) {
        for (int n = 2; n <= 4; n++) {
            for (int digit : new int[] {n, 9}) {
                due.is("row " + digit + " of " + n, Due.read(Due.sized(n), "a" + digit + "05"), 0);
                due.is("column " + digit + " of " + n, Due.read(Due.sized(n), "a0" + digit + "5"), 0);
            }
            due.is("the last of " + n, Due.read(Due.sized(n), "a" + (n - 1) + (n - 1) + "5"), 1);
        }
    }

    @Sentence(promise = 11, words = "a NUMBER that is out of its range")
    static void readOfANumberOutOfItsRange(Due due) {
        for (String letter : new String[] {"x", "y", "d"}) {
            for (String number : new String[] {"0", "00", "-0", "-1", "10", "99", "-99"}) {
                done(due, letter + "0" + number, 0);
            }
            done(due, letter + "01", 1);
            done(due, letter + "09", 1);
        }
        done(due, "x21;y21", 0);
        done(due, "d31", 0);
        done(due, "d21", 1);
        done(due, "v010;v0-10", 0);
    }

    @Sentence(promise = 11, words = "and a thirteenth CHIP are not done.")
    static void readOfAThirteenthChip(Due due) {
        MinorTables x = Due.chips(3, 2, 0, 1, 2, 0, 1, 2, 0, 1, 2, 0, 1, 2, 0, 1, 2, 0, 1, 2, 0, 1, 2, 0, 1, 2, 0, 1, 2, 0, 1);
        due.is("eleven, twelve, no more", Due.read(x, "x01;y01;d01;x01"), 2);
        due.is("told(1)", x.told(1), 12);
        due.is("the twelfth", x.chipOf(11, 0), 1);
        due.is("one more", Due.read(x, "d01"), 0);
        due.is("z makes room", Due.read(x, "z;d01"), 2);
    }

    private static void notedBehind(Due due, String text, int left) {
        MinorTables x = Due.chips(3, 2, 0, 9);
        x.minor(1, 1);
        Due.read(x, text);
        due.is("told(5) behind '" + text + "'", x.told(5), left);
    }

    @Sentence(promise = 11, words = "as does a text in which no CLAUSE n, a, t or f is done.")
    static void readThatTellsTheTableNothingLeavesNoted(Due due) {
        for (String text : new String[] {"x01", "y01", "d01", "z", "v01", "x01;y01;d01;z;v01", "n1", "n5", "a301", "a031",
            "d09;d09;t", "n9;a331", "q", ""}) {
            notedBehind(due, text, 1);
        }
    }

    @Sentence(promise = 11, words = {"a text that did so; also if no number changed by it), each once, in the order in which they"
        + " were first told."})
    static void readThatTellsTheTableForgetsNoted(Due due) {
        for (String text : new String[] {"n3", "a001", "t", "f", "z;v01;f", "f;n9", "a001;z", "n2;n9", "z;t"}) {
            notedBehind(due, text, 0);
        }
    }
}

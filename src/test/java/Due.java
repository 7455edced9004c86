/** Counts the answers that are not the ones that are due. */
final class Due {
    static final long NO = Long.MIN_VALUE;
    static final int LEAST = Integer.MIN_VALUE, MOST = Integer.MAX_VALUE;

    private static final long PATIENCE = 1000L * Integer.getInteger("patience", 300);

    private final String test;
    private int asked;
    private int wrong;

    static {
        Thread watch = new Thread(Due::endWhatHangs);
        watch.setDaemon(true);
        watch.start();
    }

    Due(String test) {
        this.test = test;
    }

    /** A call that doesn't end is wrong too. */
    private static void endWhatHangs() {
        try {
            Thread.sleep(PATIENCE);
            System.out.println("a call doesn't end");
            Runtime.getRuntime().halt(1);
        } catch (InterruptedException e) {
            Thread.currentThread().interrupt();
        }
    }

    void is(String what, long got, long want) {
        alike(what, "" + got, "" + want);
    }

    void holds(String what, boolean got) {
        is(what, got ? 1 : 0, 1);
    }

    void alike(String what, String got, String want) {
        asked++;
        if (!got.equals(want)) {
            wrong++;
            System.out.println(test + ": " + what + " answered " + got + ", due is " + want);
        }
    }

    /** The object's table has these numbers, row by row, and no others. */
    void tableIs(String what, MinorTables x, int... numbers) {
        int n = x.told(0);
        is(what + ", how many numbers", n * n, numbers.length);
        for (int p = 0; p < numbers.length; p++) {
            is(what + ", number " + p, x.of(0, spot(n, p)), numbers[p] + 100);
        }
    }

    boolean allRight() {
        return wrong == 0 && asked > 0;
    }

    /** Ends the run with 1 if an answer was wrong. */
    void end() {
        System.out.println(test + ": " + asked + " looked at, " + wrong + " wrong");
        if (!allRight()) {
            System.exit(1);
        }
    }

    /** The SPOT of place p, row by row, in a table of n rows. */
    static int spot(int n, int p) {
        return 10 * (p / n) + p % n;
    }

    /** Feeds a text sign by sign and reads it. */
    static int read(MinorTables x, String text) {
        for (int i = 0; i < text.length(); i++) {
            x.feed(text.charAt(i));
        }
        return x.read();
    }

    /** An object of n rows, all 1 where they are alike. */
    static MinorTables sized(int n) {
        MinorTables x = new MinorTables();
        x.size(n);
        return x;
    }

    /** A table of n rows with the numbers told row by row. */
    static MinorTables table(int n, int... numbers) {
        MinorTables x = sized(n);
        for (int p = 0; p < numbers.length; p++) {
            x.set(spot(n, p), numbers[p]);
        }
        return x;
    }

    /** An object of n rows with chips, each told by its kind, i and v. */
    static MinorTables chips(int n, int... told) {
        MinorTables x = sized(n);
        for (int k = 0; k + 2 < told.length; k += 3) {
            x.chip(told[k], told[k + 1], told[k + 2]);
        }
        return x;
    }

    /** Numbers that are no SPOT of n rows: just beyond a row, a column or both, below 0, far off. */
    static int[] noSpots(int n) {
        return new int[] {n, 9, 10 + n, 10 * (n - 1) + n, 10 * n, 11 * n, 90, 100, -1, -9, -10, -11, LEAST, MOST};
    }

    /** Rows and columns that tell no MINOR of n rows. */
    static int[][] noMinors(int n) {
        int beyond = 1 << n;
        int all = beyond - 1;
        return new int[][] {{0, 0}, {1, 0}, {0, 1}, {1, 3}, {3, 1}, {all, 1}, {2, all}, {beyond, 1}, {1, beyond},
            {beyond, beyond}, {beyond + 1, 3}, {3, beyond + 1}, {-1, -1}, {-1, all}, {all, -1}, {-2, 1}, {LEAST, 1},
            {1, LEAST}, {LEAST, LEAST}, {MOST, MOST}, {33, 3}, {3, 33}, {1 << 30, 1}};
    }
}

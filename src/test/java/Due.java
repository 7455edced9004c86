/** Counts the answers that are not the ones that are due. */
final class Due {
    private final String test;
    private int asked;
    private int wrong;

    Due(String test) {
        this.test = test;
    }

    void is(String what, long got, long want) {
        asked++;
        if (got != want) {
            wrong++;
            System.out.println(test + ": " + what + " answered " + got + ", due is " + want);
        }
    }

    void holds(String what, boolean got) {
        is(what, got ? 1 : 0, 1);
    }

    /** Ends the run with 1 if an answer was wrong. */
    void end() {
        System.out.println(test + ": " + asked + " looked at, " + wrong + " wrong");
        if (wrong != 0 || asked == 0) {
            System.exit(1);
        }
    }

    /** Feeds a text sign by sign and reads it. */
    static int read(MinorTables x, String text) {
        for (int i = 0; i < text.length(); i++) {
            x.feed(text.charAt(i));
        }
        return x.read();
    }

    /** A table of n rows with the numbers told row by row. */
    static MinorTables table(int n, int... numbers) {
        MinorTables x = new MinorTables();
        x.size(n);
        for (int p = 0; p < numbers.length; p++) {
            x.set(10 * (p / n) + p % n, numbers[p]);
        }
        return x;
    }
}

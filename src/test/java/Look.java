import java.util.function.ToLongFunction;

/** Looks at all of an object that can be asked: two looks that are alike tell that nothing changed. */
final class Look {
    private Look() {
    }

    /** An object that holds something of everything; it may be asked some 300 times more. */
    static MinorTables full() {
        MinorTables x = Due.table(3, 1, 2, 3, 4, 5, 6, 7, 8, 10);
        x.chip(0, 0, 2);
        x.chip(1, 1, 3);
        x.chip(2, 2, 4);
        x.vector(0, -2);
        x.vector(2, 5);
        x.minor(5, 3);
        x.minor(1, 4);
        x.see(1, 1, 1);
        x.event(0, 22);
        x.event(2, 0);
        x.book(11, 5);
        x.book(12, -6);
        x.feed('z');
        x.tape(0, 1, 2);
        x.item(0, 1, 2);
        x.tape(4, 3, 1);
        x.item(4, 0, -7);
        return x;
    }

    /** The object looks alike ahead of the calls and behind them. */
    @SafeVarargs
    static void staysBy(Due due, MinorTables x, ToLongFunction<MinorTables>... calls) {
        String before = at(x);
        for (ToLongFunction<MinorTables> call : calls) {
            call.applyAsLong(x);
        }
        due.alike("the look behind it", at(x), before);
    }

    private static String at(MinorTables x) {
        StringBuilder seen = new StringBuilder();
        for (int what = 0; what < 8; what++) {
            seen.append(" told ").append(x.told(what));
        }
        atTable(x, seen);
        atLists(x, seen);
        for (int tape = 0; tape < 6; tape++) {
            atTape(x, tape, seen);
        }
        return seen.toString();
    }

    private static void atTable(MinorTables x, StringBuilder seen) {
        int n = x.told(0);
        for (int p = 0; p < n * n; p++) {
            int spot = Due.spot(n, p);
            seen.append(" of ").append(x.of(0, spot)).append(' ').append(x.fits(spot, 0)).append(' ').append(x.fits(spot, 1));
        }
        for (int i = 0; i < n; i++) {
            seen.append(" vector ").append(x.of(1, i));
        }
    }

    private static void atLists(MinorTables x, StringBuilder seen) {
        for (int k = 0; k < x.told(1); k++) {
            seen.append(" chip ").append(x.chipOf(k, 0)).append(x.chipOf(k, 1)).append(x.chipOf(k, 2));
        }
        for (int k = 0; x.noted(k) >= 0; k++) {
            seen.append(" noted ").append(x.noted(k));
        }
        for (int what = 0; what < 4; what++) {
            seen.append(" count ").append(x.count(what));
        }
        for (int what = 0; what < 3; what++) {
            seen.append(" after ").append(x.after(what));
        }
        seen.append(" looked ").append(x.looked());
    }

    private static void atTape(MinorTables x, int tape, StringBuilder seen) {
        seen.append(" tape ").append(x.judge(tape, 0));
        for (int i = 0; x.peek(tape, i) != Due.NO; i++) {
            seen.append(' ').append(x.peek(tape, i));
        }
    }
}

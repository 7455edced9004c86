import java.util.ArrayList;
import java.util.List;
import java.util.Random;

/** Random runs of calls on the program and on the plain model: all answers are alike. */
public final class OracleTest {
    private static final int RUNS = Integer.getInteger("runs", 250);
    private static final int CALLS = 512;
    // A text of 100 signs, 101 more and read(): no step asks for more calls.
    private static final int MOST_AT_ONCE = 210;
    private static final int[] FAR = {Integer.MIN_VALUE, Integer.MAX_VALUE, -1, -2, 5, 60, 61, 99, 100, 128, 1 << 30};

    private final Random random;
    private final int run;
    private final MinorTables program = new MinorTables();
    private final PlainModel model = new PlainModel();
    private final Due due;
    private final List<String> told = new ArrayList<>();
    private int left = CALLS;

    private OracleTest(int run, Due due) {
        this.run = run;
        this.due = due;
        random = new Random(run);
    }

    public static void main(String[] args) {
        Due due = new Due("OracleTest");
        for (int run = 1; run <= RUNS; run++) {
            new OracleTest(run, due).go();
        }
        due.end();
    }

    private void go() {
        while (left >= MOST_AT_ONCE) {
            int which = random.nextInt(100);
            if (which < 4) {
                feedAndRead();
            } else if (which < 7) {
                makePositive();
            } else if (which < 9) {
                tellTape();
            } else {
                call(random.nextInt(40));
            }
        }
    }

    private int below(int bound) {
        return random.nextInt(bound);
    }

    /** From least to most, now and then beyond it, seldom far off. */
    private int about(int least, int most) {
        int luck = below(40);
        if (luck == 0) {
            return FAR[below(FAR.length)];
        }
        return luck < 3 ? least - 1 + below(most - least + 3) : least + below(most - least + 1);
    }

    private int spot() {
        int n = model.told(0);
        return below(12) == 0 ? about(0, 34) : 10 * below(n) + below(n);
    }

    private int[] minor() {
        int n = model.told(0);
        int rows = about(1, (1 << n) - 1);
        int columns = about(1, (1 << n) - 1);
        for (int t = 0; t < 20 && Integer.bitCount(rows) != Integer.bitCount(columns) && below(25) != 0; t++) {
            columns = about(1, (1 << n) - 1);
        }
        return new int[] {rows, columns};
    }

    private void same(String what, long got, long want) {
        left--;
        told.add(what + " " + want);
        due.is("run " + run + ", call " + told.size() + ", " + what, got, want);
    }

    private void feedAndRead() {
        StringBuilder text = new StringBuilder();
        int many = below(4) == 0 ? 13 : 1 + below(5);
        for (int k = 0; k < many; k++) {
            text.append(k == 0 ? "" : ";").append(clause("naaxxyydvvvztttf".charAt(below(16))));
        }
        if (below(3) == 0 && text.length() > 0) {
            int at = below(text.length() + 1);
            char sign = "naxydvztf;-0123456789 q".charAt(below(23));
            switch (below(3)) {
                case 0: text.insert(at, sign); break;
                case 1: text.setLength(at); break;
                default: text.setCharAt(Math.min(at, text.length() - 1), sign); break;
            }
        }
        for (int k = 0; k < text.length() && k < 100; k++) {
            feed(text.charAt(k));
        }
        if (below(30) == 0) {
            for (int k = 0; k < 101; k++) {
                feed('z');
            }
        }
        same("read() of " + text, program.read(), model.read());
    }

    private void feed(int sign) {
        same("feed", program.feed(sign), model.feed(sign));
    }

    private String clause(char letter) {
        int n = model.told(0);
        String number = "" + (below(3) == 0 ? about(-99, 99) % 100 : below(10));
        switch (letter) {
            case 'n': return "n" + (below(8) == 0 ? below(10) : 2 + below(3));
            case 'a': return "a" + below(n) + below(5 + n) % n + number;
            case 'x':
            case 'y':
            case 'd':
            case 'v': return "" + letter + below(n) + number;
            default: return "" + letter;
        }
    }

    /** Chips of all falls, scales and rises, and take(): mostly a table all whose minors are above 0. */
    private void makePositive() {
        int n = below(3) == 0 ? 2 + below(3) : model.told(0);
        same("size", program.size(n), model.size(n));
        for (int j = 0; j < n - 1; j++) {
            for (int i = n - 2; i >= j; i--) {
                chip(1, i, 1 + below(n == 4 ? 2 : 3));
            }
        }
        for (int i = 0; i < n && n < 4; i++) {
            chip(2, i, 1 + below(3));
        }
        for (int j = n - 2; j >= 0; j--) {
            for (int i = j; i <= n - 2; i++) {
                chip(0, i, 1 + below(n == 4 ? 2 : 3));
            }
        }
        same("take()", program.take(), model.take());
        same("told(2)", program.told(2), model.told(2));
        if (below(2) == 0) {
            same("clear()", program.clear(), model.clear());
        }
    }

    private void chip(int kind, int i, int v) {
        same("chip", program.chip(kind, i, v), model.chip(kind, i, v));
    }

    /** A tape of shorts that tells the table, but for one number perhaps. */
    private void tellTape() {
        int n = model.told(0);
        int start = below(3);
        int many = start + n * n + below(3) - 1;
        int tape = below(6);
        same("tape", program.tape(tape, 1, many), model.tape(tape, 1, many));
        for (int p = 0; p < n * n; p++) {
            int v = model.of(0, 10 * (p / n) + p % n) - 100 + (below(20) == 0 ? 1 : 0);
            same("item", program.item(tape, start + p, v), model.item(tape, start + p, v));
        }
        same("judge", program.judge(tape, start), model.judge(tape, start));
    }

    private void call(int which) {
        if (which < 14) {
            changeOrTell(which);
        } else if (which < 25) {
            minorsAndPaths(which);
        } else {
            others(which);
        }
    }

    private void changeOrTell(int which) {
        int a = about(0, 2);
        int b = about(0, 3);
        int c = about(1, 9);
        int s = spot();
        int v = below(2) == 0 ? about(-99, 99) : about(0, 5);
        switch (which) {
            case 0: if (below(6) == 0) same("size " + (a + 2), program.size(a + 2), model.size(a + 2)); break;
            case 1: same("set " + s + " " + v, program.set(s, v), model.set(s, v)); break;
            case 2: same("turn", program.turn(), model.turn()); break;
            case 3: same("flip", program.flip(), model.flip()); break;
            case 4: same("chip", program.chip(a, b, c), model.chip(a, b, c)); break;
            case 5: if (below(3) == 0) same("clear", program.clear(), model.clear()); break;
            case 6: same("take", program.take(), model.take()); break;
            case 7: v = about(-9, 9); same("vector " + b + " " + v, program.vector(b, v), model.vector(b, v)); break;
            case 8: v = about(0, 127); same("feed " + v, program.feed(v), model.feed(v)); break;
            case 9: same("read", program.read(), model.read()); break;
            case 10: same("of 0 " + s, program.of(0, s), model.of(0, s)); break;
            case 11: same("of " + a + " " + b, program.of(a, b), model.of(a, b)); break;
            case 12: a = about(0, 7); same("told " + a, program.told(a), model.told(a)); break;
            default: a = about(0, 11); same("chipOf", program.chipOf(a, b), model.chipOf(a, b)); break;
        }
    }

    private void minorsAndPaths(int which) {
        int s = spot();
        int a = about(0, 2);
        int k = about(0, 4);
        int[] m = minor();
        String of = " " + m[0] + " " + m[1];
        switch (which) {
            case 14: same("minor" + of, program.minor(m[0], m[1]), model.minor(m[0], m[1])); break;
            case 15: a = about(0, 10); same("noted " + a, program.noted(a), model.noted(a)); break;
            case 16: same("first " + s, program.first(s), model.first(s)); break;
            case 17: same("factor " + s + " " + a, program.factor(s, a), model.factor(s, a)); break;
            case 18: same("sum " + k, program.sum(k), model.sum(k)); break;
            case 19: same("unlike " + k, program.unlike(k), model.unlike(k)); break;
            case 20: same("may " + s + " " + a, program.may(s, a), model.may(s, a)); break;
            case 21: same("product " + s, program.product(s), model.product(s)); break;
            case 22: same("productMinor" + of, program.productMinor(m[0], m[1]), model.productMinor(m[0], m[1])); break;
            case 23: same("paths" + of, program.paths(m[0], m[1]), model.paths(m[0], m[1])); break;
            default: see(m); break;
        }
    }

    /** Mostly what the minor is, so that something fits. */
    private void see(int[] m) {
        int rows = below(12) == 0 ? -1 : m[0];
        long is = model.minor(m[0], m[1]);
        same("minor", program.minor(m[0], m[1]), is);
        int v = below(3) == 0 || is == Long.MIN_VALUE ? about(-99999, 99999) : (int) Math.max(-99999, Math.min(99999, is));
        same("see " + v, program.see(rows, m[1], v), model.see(rows, m[1], v));
    }

    private void others(int which) {
        int s = spot();
        int a = about(0, 1);
        int b = about(0, 3);
        int c = about(0, 5);
        int d = about(0, 5);
        switch (which) {
            case 25: same("fits " + s + " " + a, program.fits(s, a), model.fits(s, a)); break;
            case 26: same("odds " + b, program.odds(b, a), model.odds(b, a)); break;
            case 27: same("mean " + a, program.mean(a), model.mean(a)); break;
            case 28: int n = b == 2 ? c : b == 3 ? a - 1 + below(2) : s; event(b - (below(12) == 0 ? 1 : 0), n); break;
            case 29: same("after " + b, program.after(b), model.after(b)); break;
            case 30: book(s); break;
            case 31: same("looked", program.looked(), model.looked()); break;
            case 32: same("judge", program.judge(c, b), model.judge(c, b)); break;
            case 33: if (below(2) == 0) same("image", program.image(), model.image()); break;
            case 34: if (below(3) == 0) same("undo", program.undo(), model.undo()); break;
            case 35: same("count " + b, program.count(b), model.count(b)); break;
            default: tapes(which, c, d); break;
        }
    }

    private void event(int what, int n) {
        same("event " + what + " " + n, program.event(what, n), model.event(what, n));
    }

    private void book(int s) {
        int spot = below(12) == 0 ? -1 : s;
        int v = below(3) == 0 ? about(-99, 99) : model.of(0, s) - 100;
        same("book " + spot + " " + v, program.book(spot, v), model.book(spot, v));
    }

    private void tapes(int which, int c, int d) {
        int sort = below(3) == 0 ? about(-1, 4) : 1;
        int n = about(0, below(4) == 0 ? 60 : 6);
        int i = about(0, 6);
        int j = about(0, 6);
        long v = below(2) == 0 ? random.nextLong() : about(-200, 200);
        switch (which) {
            case 36: same("tape " + c + " " + sort + " " + n, program.tape(c, sort, n), model.tape(c, sort, n)); break;
            case 37: same("item", program.item(c, i, v), model.item(c, i, v)); break;
            case 38: same("peek", program.peek(c, i), model.peek(c, i)); break;
            default: n = about(0, 4); same("shift", program.shift(c, i, d, j, n), model.shift(c, i, d, j, n)); break;
        }
    }
}

import java.math.BigInteger;
import java.util.ArrayList;
import java.util.HashSet;
import java.util.List;
import java.util.Set;
import java.util.regex.Pattern;

/** A slow and plain reading of the document, written without a look at the program. */
public final class PlainModel {
    private static final long NO = Long.MIN_VALUE;
    private static final String NUMBER = "-?[0-9][0-9]?";
    private static final String CLAUSE = "(n[0-9]|a[0-9][0-9]" + NUMBER + "|[xydv][0-9]" + NUMBER + "|[ztf])";
    private static final Pattern SET_UP = Pattern.compile(CLAUSE + "(;" + CLAUSE + "){0,11}");
    private static final String[] COMPLETIONS = {"", "0", "00", "000", "z"};

    private static final class World {
        int n = 3;
        int[][] table = unit(3);
        List<int[]> chips = new ArrayList<>();
        int[] vector = new int[3];
        List<Integer> noted = new ArrayList<>();
        List<int[]> seen = new ArrayList<>();
        List<int[]> events = new ArrayList<>();
        List<int[]> book = new ArrayList<>();

        World copy() {
            World w = new World();
            w.n = n;
            w.table = copyOf(table);
            w.chips.addAll(chips);
            w.vector = vector.clone();
            w.noted.addAll(noted);
            w.seen.addAll(seen);
            w.events.addAll(events);
            w.book.addAll(book);
            return w;
        }
    }

    private World w = new World();
    private World imaged = null;
    private String text = "";
    private final int[] sorts = {-1, -1, -1, -1, -1, -1};
    private final long[][] tapes = new long[6][];

    // ---- small things

    private static int[][] unit(int n) {
        int[][] u = new int[n][n];
        for (int i = 0; i < n; i++) {
            u[i][i] = 1;
        }
        return u;
    }

    private static int[][] copyOf(int[][] t) {
        int[][] c = new int[t.length][];
        for (int i = 0; i < t.length; i++) {
            c[i] = t[i].clone();
        }
        return c;
    }

    private boolean spot(int spot) {
        return spot >= 0 && spot < 100 && spot / 10 < w.n && spot % 10 < w.n;
    }

    private boolean isMinor(int rows, int columns) {
        return rows > 0 && columns > 0 && rows < 1 << w.n && columns < 1 << w.n && bits(rows).size() == bits(columns).size();
    }

    private static List<Integer> bits(int set) {
        List<Integer> b = new ArrayList<>();
        for (int i = 0; i < 5; i++) {
            if ((set >> i) % 2 == 1) {
                b.add(i);
            }
        }
        return b;
    }

    private static BigInteger[][] big(int[][] t) {
        BigInteger[][] b = new BigInteger[t.length][t.length];
        for (int i = 0; i < t.length; i++) {
            for (int j = 0; j < t.length; j++) {
                b[i][j] = BigInteger.valueOf(t[i][j]);
            }
        }
        return b;
    }

    private static BigInteger det(BigInteger[][] t, List<Integer> rows, List<Integer> columns) {
        if (rows.isEmpty()) {
            return BigInteger.ONE;
        }
        BigInteger whole = BigInteger.ZERO;
        for (int k = 0; k < columns.size(); k++) {
            List<Integer> rest = new ArrayList<>(columns);
            rest.remove(k);
            BigInteger part = t[rows.get(0)][columns.get(k)].multiply(det(t, rows.subList(1, rows.size()), rest));
            whole = k % 2 == 0 ? whole.add(part) : whole.subtract(part);
        }
        return whole;
    }

    private static long det(int[][] t, int rows, int columns) {
        return det(big(t), bits(rows), bits(columns)).longValueExact();
    }

    private static List<Long> minors(int[][] t, int k) {
        List<Long> all = new ArrayList<>();
        for (int rows = 1; rows < 1 << t.length; rows++) {
            for (int columns = 1; columns < 1 << t.length; columns++) {
                if (bits(rows).size() == k && bits(columns).size() == k) {
                    all.add(det(t, rows, columns));
                }
            }
        }
        return all;
    }

    private static int above(int[][] t, int k) {
        int many = 0;
        for (long m : minors(t, k)) {
            many += m > 0 ? 1 : 0;
        }
        return many;
    }

    private static int above(int[][] t) {
        int many = 0;
        for (int k = 1; k <= t.length; k++) {
            many += above(t, k);
        }
        return many;
    }

    private static boolean positive(int[][] t) {
        return above(t) == new int[] {0, 0, 5, 19, 69}[t.length];
    }

    private static long first(int[][] t, int i, int j) {
        int k = Math.min(i, j) + 1;
        int rows = 0;
        int columns = 0;
        for (int s = 0; s < k; s++) {
            rows |= 1 << (i - s);
            columns |= 1 << (j - s);
        }
        return det(t, rows, columns);
    }

    private static int amiss(int[][] t) {
        for (int i = 0; i < t.length; i++) {
            for (int j = 0; j < t.length; j++) {
                if (first(t, i, j) <= 0) {
                    return 10 * i + j;
                }
            }
        }
        return -5;
    }

    private static long lowest(long above, long below, int part) {
        BigInteger g = BigInteger.valueOf(above).gcd(BigInteger.valueOf(below));
        return (part == 0 ? above : below) / g.longValueExact();
    }

    private static int changes(long[] row) {
        List<Integer> signs = new ArrayList<>();
        for (long v : row) {
            if (v != 0) {
                signs.add(Long.signum(v));
            }
        }
        int many = 0;
        for (int k = 1; k < signs.size(); k++) {
            many += signs.get(k - 1).equals(signs.get(k)) ? 0 : 1;
        }
        return many;
    }

    // ---- the table, chips

    public int size(int n) {
        if (n < 2 || n > 4) {
            return -2;
        }
        int before = w.n;
        w.n = n;
        w.table = unit(n);
        w.chips.clear();
        w.vector = new int[n];
        w.noted.clear();
        return before;
    }

    public int set(int spot, int v) {
        if (!spot(spot)) {
            return -1;
        }
        if (v < -99 || v > 99) {
            return -2;
        }
        int before = w.table[spot / 10][spot % 10];
        w.table[spot / 10][spot % 10] = v;
        w.noted.clear();
        return before + 100;
    }

    public int turn() {
        int[][] t = unit(w.n);
        for (int i = 0; i < w.n; i++) {
            for (int j = 0; j < w.n; j++) {
                t[j][i] = w.table[i][j];
            }
        }
        w.table = t;
        w.noted.clear();
        return 1;
    }

    public int flip() {
        int[][] t = unit(w.n);
        for (int i = 0; i < w.n; i++) {
            for (int j = 0; j < w.n; j++) {
                t[w.n - 1 - i][w.n - 1 - j] = w.table[i][j];
            }
        }
        w.table = t;
        w.noted.clear();
        return 1;
    }

    public int chip(int kind, int i, int v) {
        if (kind < 0 || kind > 2 || i < 0 || i > (kind == 2 ? w.n - 1 : w.n - 2)) {
            return -1;
        }
        if (v < 1 || v > 9) {
            return -2;
        }
        if (w.chips.size() == 12) {
            return -4;
        }
        w.chips.add(new int[] {kind, i, v});
        return w.chips.size();
    }

    public int clear() {
        int many = w.chips.size();
        w.chips.clear();
        return many;
    }

    private BigInteger[][] productOfChips() {
        BigInteger[][] p = big(unit(w.n));
        for (int[] c : w.chips) {
            int[][] one = unit(w.n);
            if (c[0] == 0) {
                one[c[1]][c[1] + 1] = c[2];
            } else if (c[0] == 1) {
                one[c[1] + 1][c[1]] = c[2];
            } else {
                one[c[1]][c[1]] = c[2];
            }
            BigInteger[][] b = big(one);
            BigInteger[][] q = big(unit(w.n));
            for (int i = 0; i < w.n; i++) {
                for (int j = 0; j < w.n; j++) {
                    q[i][j] = BigInteger.ZERO;
                    for (int k = 0; k < w.n; k++) {
                        q[i][j] = q[i][j].add(p[i][k].multiply(b[k][j]));
                    }
                }
            }
            p = q;
        }
        return p;
    }

    public int take() {
        BigInteger[][] p = productOfChips();
        int[][] t = unit(w.n);
        for (int i = 0; i < w.n; i++) {
            for (int j = 0; j < w.n; j++) {
                if (p[i][j].compareTo(BigInteger.valueOf(99)) > 0) {
                    return -3;
                }
                t[i][j] = p[i][j].intValueExact();
            }
        }
        w.table = t;
        w.noted.clear();
        return 1;
    }

    public int vector(int i, int v) {
        if (i < 0 || i >= w.n) {
            return -1;
        }
        if (v < -9 || v > 9) {
            return -2;
        }
        int before = w.vector[i];
        w.vector[i] = v;
        return before + 100;
    }

    public int feed(int sign) {
        if (sign < 0 || sign > 127) {
            return -2;
        }
        if (text.length() == 100) {
            return -4;
        }
        text += (char) sign;
        return text.length();
    }

    private static boolean begins(String prefix) {
        for (String c : COMPLETIONS) {
            if (SET_UP.matcher(prefix + c).matches()) {
                return true;
            }
        }
        return false;
    }

    public int read() {
        String t = text;
        text = "";
        for (int k = 1; k <= t.length(); k++) {
            if (!begins(t.substring(0, k))) {
                return -10 - (k - 1);
            }
        }
        if (!SET_UP.matcher(t).matches()) {
            return -10 - t.length();
        }
        int done = 0;
        for (String c : t.split(";")) {
            done += clause(c) ? 1 : 0;
        }
        return done;
    }

    private boolean clause(String c) {
        int digit = c.length() > 1 ? c.charAt(1) - '0' : 0;
        switch (c.charAt(0)) {
            case 'n': return size(digit) > 0;
            case 'a': return set(Integer.parseInt(c.substring(1, 3)), Integer.parseInt(c.substring(3))) > 0;
            case 'x': return chip(0, digit, Integer.parseInt(c.substring(2))) > 0;
            case 'y': return chip(1, digit, Integer.parseInt(c.substring(2))) > 0;
            case 'd': return chip(2, digit, Integer.parseInt(c.substring(2))) > 0;
            case 'z': return clear() >= 0;
            case 't': return take() > 0;
            case 'f': return flip() > 0;
            default: return vector(digit, Integer.parseInt(c.substring(2))) > 0;
        }
    }

    // ---- what is told

    public int of(int what, int spot) {
        if (what == 0 && spot(spot)) {
            return w.table[spot / 10][spot % 10] + 100;
        }
        return what == 1 && spot >= 0 && spot < w.n ? w.vector[spot] + 100 : -1;
    }

    public int told(int what) {
        long[] v = new long[w.n];
        long[] times = new long[w.n];
        for (int i = 0; i < w.n; i++) {
            v[i] = w.vector[i];
            for (int j = 0; j < w.n; j++) {
                times[i] += w.table[i][j] * w.vector[j];
            }
        }
        switch (what) {
            case 0: return w.n;
            case 1: return w.chips.size();
            case 2: return positive(w.table) ? 1 : 0;
            case 3: return amiss(w.table);
            case 4: return above(w.table);
            case 5: return w.noted.size();
            case 6: return changes(v);
            case 7: return changes(times);
            default: return -1;
        }
    }

    public int chipOf(int chip, int what) {
        return chip >= 0 && chip < w.chips.size() && what >= 0 && what <= 2 ? w.chips.get(chip)[what] : -1;
    }

    // ---- minors

    public long minor(int rows, int columns) {
        if (!isMinor(rows, columns)) {
            return NO;
        }
        if (!w.noted.contains(100 * rows + columns)) {
            w.noted.add(100 * rows + columns);
        }
        return det(w.table, rows, columns);
    }

    public int noted(int i) {
        return i < 0 ? -1 : i >= w.noted.size() ? -5 : w.noted.get(i);
    }

    public long first(int spot) {
        return spot(spot) ? first(w.table, spot / 10, spot % 10) : NO;
    }

    private static List<Integer> range(int from, int to) {
        List<Integer> r = new ArrayList<>();
        for (int i = from; i <= to; i++) {
            r.add(i);
        }
        return r;
    }

    private static long[] factorOf(BigInteger[][] t, int i, int j) {
        BigInteger above;
        BigInteger below;
        if (i == j) {
            above = det(t, range(0, i), range(0, i));
            below = det(t, range(0, i - 1), range(0, i - 1));
        } else if (i > j) {
            above = det(t, range(i - j, i), range(0, j)).multiply(det(t, range(i - j - 1, i - 2), range(0, j - 1)));
            below = det(t, range(i - j, i - 1), range(0, j - 1)).multiply(det(t, range(i - j - 1, i - 1), range(0, j)));
        } else {
            BigInteger[][] over = new BigInteger[t.length][t.length];
            for (int r = 0; r < t.length; r++) {
                for (int c = 0; c < t.length; c++) {
                    over[c][r] = t[r][c];
                }
            }
            return factorOf(over, j, i);
        }
        return new long[] {above.divide(above.gcd(below)).longValueExact(), below.divide(above.gcd(below)).longValueExact()};
    }

    public long factor(int spot, int part) {
        if (!spot(spot) || part < 0 || part > 1 || !positive(w.table)) {
            return NO;
        }
        return factorOf(big(w.table), spot / 10, spot % 10)[part];
    }

    public long sum(int k) {
        if (k < 0 || k > w.n) {
            return NO;
        }
        long whole = 0;
        for (int rows = 0; rows < 1 << w.n; rows++) {
            whole += bits(rows).size() == k ? det(w.table, rows, rows) : 0;
        }
        return whole;
    }

    public int unlike(int k) {
        if (k < 1 || k > w.n) {
            return -2;
        }
        Set<Long> values = new HashSet<>(minors(w.table, k));
        return values.size();
    }

    public int may(int spot, int what) {
        if (!spot(spot) || what < 0 || what > 2) {
            return -1;
        }
        List<Integer> good = new ArrayList<>();
        for (int v = -99; v <= 99; v++) {
            int[][] t = copyOf(w.table);
            t[spot / 10][spot % 10] = v;
            if (amiss(t) == -5 && positive(t)) {
                good.add(v);
            }
        }
        if (what == 0) {
            return good.size();
        }
        return good.isEmpty() ? -5 : good.get(what == 1 ? 0 : good.size() - 1) + 100;
    }

    // ---- products, paths

    public long product(int spot) {
        return spot(spot) ? productOfChips()[spot / 10][spot % 10].longValueExact() : NO;
    }

    public long productMinor(int rows, int columns) {
        return isMinor(rows, columns) ? det(productOfChips(), bits(rows), bits(columns)).longValueExact() : NO;
    }

    public long paths(int rows, int columns) {
        return isMinor(rows, columns) ? ways(0, bits(rows), columns) : NO;
    }

    /** All ways of paths, one by one: each goes on or stays at each chip. */
    private long ways(int chip, List<Integer> lines, int columns) {
        if (new HashSet<>(lines).size() < lines.size()) {
            return 0;
        }
        if (chip == w.chips.size()) {
            int set = 0;
            for (int l : lines) {
                set |= 1 << l;
            }
            return set == columns ? 1 : 0;
        }
        int[] c = w.chips.get(chip);
        long whole = 0;
        int from = c[0] == 1 ? c[1] + 1 : c[1];
        int at = lines.indexOf(from);
        if (c[0] == 2) {
            return (at >= 0 ? c[2] : 1) * ways(chip + 1, lines, columns);
        }
        whole += ways(chip + 1, lines, columns);
        if (at >= 0) {
            List<Integer> gone = new ArrayList<>(lines);
            gone.set(at, c[0] == 0 ? from + 1 : from - 1);
            whole += c[2] * ways(chip + 1, gone, columns);
        }
        return whole;
    }

    // ---- seen, odds

    public int see(int rows, int columns, int v) {
        if (rows == -1) {
            w.seen.clear();
            return 0;
        }
        if (!isMinor(rows, columns)) {
            return -1;
        }
        if (v < -99999 || v > 99999) {
            return -2;
        }
        if (w.seen.size() == 4) {
            return -4;
        }
        w.seen.add(new int[] {rows, columns, v});
        return w.seen.size();
    }

    public int fits(int spot, int what) {
        if (!spot(spot) || what < 0 || what > 1) {
            return -1;
        }
        List<Integer> good = new ArrayList<>();
        for (int v = -99; v <= 99; v++) {
            int[][] t = copyOf(w.table);
            t[spot / 10][spot % 10] = v;
            boolean all = true;
            for (int[] s : w.seen) {
                all = all && isMinor(s[0], s[1]) && det(t, s[0], s[1]) == s[2];
            }
            if (all) {
                good.add(v);
            }
        }
        return what == 0 ? good.size() : good.isEmpty() ? 0 : good.get(0) + 100;
    }

    public long odds(int k, int part) {
        if (k < 1 || k > w.n || part < 0 || part > 1) {
            return NO;
        }
        return lowest(above(w.table, k), minors(w.table, k).size(), part);
    }

    public long mean(int part) {
        if (part < 0 || part > 1) {
            return NO;
        }
        long whole = 0;
        for (int[] row : w.table) {
            for (int v : row) {
                whole += v;
            }
        }
        return lowest(whole, w.n * w.n, part);
    }

    // ---- events, books

    public int event(int what, int n) {
        if (what == -1) {
            w.events.clear();
            return 0;
        }
        if (what < 0 || what > 3 || what < 2 && !spot(n) || what == 2 && (n < 0 || n > w.n - 2)) {
            return -1;
        }
        if (what == 3 && n != 0) {
            return -2;
        }
        if (w.events.size() == 8) {
            return -4;
        }
        w.events.add(new int[] {what, n});
        return w.events.size();
    }

    public long after(int what) {
        if (what < 0 || what > 2) {
            return NO;
        }
        World before = w;
        w = w.copy();
        for (int[] e : w.events) {
            int row = e[1] / 10;
            int column = e[1] % 10;
            if (e[0] == 0 && spot(e[1])) {
                w.table[row][column] = Math.min(99, w.table[row][column] + 1);
            } else if (e[0] == 1 && spot(e[1])) {
                w.table[row][column] = 0;
            } else if (e[0] == 2 && e[1] + 1 < w.n) {
                int[] one = w.table[e[1]];
                w.table[e[1]] = w.table[e[1] + 1];
                w.table[e[1] + 1] = one;
            } else if (e[0] == 3) {
                turn();
            }
        }
        int[][] t = w.table;
        w = before;
        int all = (1 << w.n) - 1;
        return what == 0 ? above(t) : what == 1 ? amiss(t) : det(t, all, all);
    }

    public int book(int spot, int v) {
        if (spot == -1) {
            w.book.clear();
            return 0;
        }
        if (!spot(spot)) {
            return -1;
        }
        if (v < -99 || v > 99) {
            return -2;
        }
        if (w.book.size() == 8) {
            return -4;
        }
        w.book.add(new int[] {spot, v});
        return w.book.size();
    }

    public int looked() {
        for (int k = 0; k < w.book.size(); k++) {
            if (of(0, w.book.get(k)[0]) != w.book.get(k)[1] + 100) {
                return k;
            }
        }
        return -5;
    }

    // ---- judging, the image, tapes

    private static boolean none(int tape) {
        return tape < 0 || tape > 5;
    }

    public int judge(int tape, int i) {
        if (none(tape)) {
            return -1;
        }
        if (sorts[tape] == -1) {
            return 100;
        }
        if (sorts[tape] != 1) {
            return -12;
        }
        if (i < 0 || i > tapes[tape].length) {
            return 100;
        }
        for (int p = 0; p < w.n * w.n; p++) {
            if ((long) i + p >= tapes[tape].length) {
                return 100 + p;
            }
            if (tapes[tape][i + p] != w.table[p / w.n][p % w.n]) {
                return 10 * (p / w.n) + p % w.n;
            }
        }
        return -5;
    }

    public int image() {
        imaged = w.copy();
        return w.chips.size();
    }

    public int undo() {
        if (imaged == null) {
            return -3;
        }
        w = imaged.copy();
        return w.chips.size();
    }

    public int count(int what) {
        switch (what) {
            case 0: return w.seen.size();
            case 1: return w.events.size();
            case 2: return w.book.size();
            case 3: return text.length();
            default: return -2;
        }
    }

    public int tape(int tape, int sort, int n) {
        if (none(tape)) {
            return -1;
        }
        if (sort != -1) {
            if (sort < 0 || sort > 4 || n > 60) {
                return -2;
            }
            if (n < 0) {
                return -14;
            }
        }
        sorts[tape] = sort;
        tapes[tape] = sort == -1 ? null : new long[n];
        return 1;
    }

    public int item(int tape, int i, long v) {
        if (none(tape)) {
            return -1;
        }
        if (tapes[tape] == null) {
            return -11;
        }
        if (i < 0 || i >= tapes[tape].length) {
            return -13;
        }
        long[] bySort = {(byte) v, (short) v, (int) v, v, v == 0 ? 0 : 1};
        tapes[tape][i] = bySort[sorts[tape]];
        return 1;
    }

    public long peek(int tape, int i) {
        return none(tape) || tapes[tape] == null || i < 0 || i >= tapes[tape].length ? NO : tapes[tape][i];
    }

    public int shift(int tape, int i, int other, int j, int n) {
        if (none(tape) || none(other)) {
            return -1;
        }
        if (tapes[tape] == null || tapes[other] == null) {
            return -11;
        }
        if (sorts[tape] != sorts[other]) {
            return -12;
        }
        if (n < 0 || i < 0 || j < 0 || (long) i + n > tapes[tape].length || (long) j + n > tapes[other].length) {
            return -13;
        }
        long[] before = tapes[tape].clone();
        for (int k = 0; k < n; k++) {
            tapes[other][j + k] = before[i + k];
        }
        return n;
    }
}

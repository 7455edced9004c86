import java.util.Arrays;

/**
 * Tables all whose minors are above nought. What each call answers is told by ../shared/DOC.md;
 * the words in capitals here (SPOT, MINOR, CHIP ..) are its terms.
 */
public final class MinorTables {
    public static final int NONE = -1, BAD = -2, STATE = -3, FULL = -4;
    public static final long NO = Long.MIN_VALUE;

    private static final int NOTHING = -11, CAST = -12, PLACE = -13, SIZE = -14;
    private static final int NOT_FOUND = -5;
    private static final int FAULT_BASE = -10;

    private static final int LEAST_LINES = 2, FIRST_LINES = 3, MOST_LINES = 4;
    private static final int MOST_SETS = 1 << MOST_LINES;
    private static final int MOST_MINORS = 69, MOST_MINORS_ALIKE = 36;
    private static final int LEAST_NUMBER = -99, MOST_NUMBER = 99;
    // Numbers of THE TABLE and THE VECTOR are told raised, so that none looks like a refusal.
    private static final int RAISE = 100;

    private static final int RISE = 0, FALL = 1, SCALE = 2;
    private static final int MOST_CHIPS = 12, MOST_CHIP_COST = 9;
    private static final int MOST_IN_VECTOR = 9;
    private static final int MOST_SEEN = 4, MOST_SEEN_VALUE = 99999;
    private static final int MORE = 0, NOUGHT = 1, SWAP = 2, TURN = 3;
    private static final int MOST_EVENTS = 8, MOST_IN_BOOK = 8;
    private static final int MOST_SIGNS = 100, MOST_SIGN = 127, MOST_CLAUSES = 12;
    private static final int TAPES = 6, MOST_ITEMS = 60;
    private static final int HOLDS_NOTHING = -1, BYTES = 0, SHORTS = 1, INTS = 2, BOOLEANS = 4;
    // Euclid's way needs fewer steps than this for any two longs.
    private static final int MOST_DIVISIONS = 100;

    private final Scene now = new Scene();
    private final Scene kept = new Scene();
    private boolean imageTaken;
    private final Grid result = new Grid();
    private final Straights straights = new Straights();
    private final Text text = new Text();
    private final Tape[] tapes = new Tape[TAPES];
    private final long[] ways = new long[MOST_SETS];
    private final long[] unlikeValues = new long[MOST_MINORS_ALIKE];
    private final long[] tableTimesVector = new long[MOST_LINES];

    public MinorTables() {
        for (int i = 0; i < tapes.length; i++) {
            tapes[i] = new Tape();
        }
    }

    // ---- the table, chips

    public int size(int n) {
        if (n < LEAST_LINES || n > MOST_LINES) {
            return BAD;
        }
        int before = now.table.lines();
        now.table.becomeUnit(n);
        now.chips.empty();
        Arrays.fill(now.vector, 0);
        now.notes.empty();
        return before;
    }

    public int set(int spot, int v) {
        if (!now.table.hasSpot(spot)) {
            return NONE;
        }
        if (v < LEAST_NUMBER || v > MOST_NUMBER) {
            return BAD;
        }
        int before = raised(now.table.atSpot(spot));
        now.table.putSpot(spot, v);
        now.notes.empty();
        return before;
    }

    public int turn() {
        now.table.turnOver();
        now.notes.empty();
        return 1;
    }

    public int flip() {
        now.table.turnAround();
        now.notes.empty();
        return 1;
    }

    public int chip(int kind, int i, int v) {
        if (!isChipPlace(kind, i)) {
            return NONE;
        }
        if (v < 1 || v > MOST_CHIP_COST) {
            return BAD;
        }
        if (now.chips.isFull()) {
            return FULL;
        }
        return now.chips.add(kind, i, v);
    }

    public int clear() {
        int before = now.chips.held();
        now.chips.empty();
        return before;
    }

    public int take() {
        multiplyChips();
        if (result.greatest() > MOST_NUMBER) {
            return STATE;
        }
        now.table.copyFrom(result);
        now.notes.empty();
        return 1;
    }

    public int vector(int i, int v) {
        if (!now.isInVector(i)) {
            return NONE;
        }
        if (v < -MOST_IN_VECTOR || v > MOST_IN_VECTOR) {
            return BAD;
        }
        int before = raised(now.vectorAt(i));
        now.putInVector(i, v);
        return before;
    }

    public int feed(int sign) {
        if (sign < 0 || sign > MOST_SIGN) {
            return BAD;
        }
        if (text.isFull()) {
            return FULL;
        }
        return text.add(sign);
    }

    public int read() {
        int fault = text.findFault();
        text.empty();
        if (fault != NOT_FOUND) {
            return FAULT_BASE - fault;
        }
        Rows clauses = text.clauses();
        int many = clauses.held();
        int done = 0;
        for (int k = 0; k < many; k++) {
            if (doClause(clauses.cell(k, 0), clauses.cell(k, 1), clauses.cell(k, 2)) >= 0) {
                done++;
            }
        }
        return done;
    }

    // ---- what is told

    public int of(int what, int spot) {
        if (what == 0 && now.table.hasSpot(spot)) {
            return raised(now.table.atSpot(spot));
        }
        if (what == 1 && now.isInVector(spot)) {
            return raised(now.vectorAt(spot));
        }
        return NONE;
    }

    public int told(int what) {
        switch (what) {
            case 0: return now.table.lines();
            case 1: return now.chips.held();
            case 2: return now.table.isPositive() ? 1 : 0;
            case 3: return now.table.amiss();
            case 4: return now.table.above();
            case 5: return now.notes.held();
            case 6: return changes(now.vector);
            case 7: return changesOfTableTimesVector();
            default: return NONE;
        }
    }

    public int chipOf(int chip, int what) {
        if (!now.chips.has(chip) || what < 0 || what > 2) {
            return NONE;
        }
        return now.chips.cell(chip, what);
    }

    // ---- minors

    public long minor(int rows, int columns) {
        if (!now.table.hasMinor(rows, columns)) {
            return NO;
        }
        if (!now.notes.holds(rows, columns)) {
            now.notes.add(rows, columns, 0);
        }
        return now.table.determinant(rows, columns);
    }

    public int noted(int i) {
        if (i < 0) {
            return NONE;
        }
        return now.notes.has(i) ? 100 * now.notes.cell(i, 0) + now.notes.cell(i, 1) : NOT_FOUND;
    }

    public long first(int spot) {
        return now.table.hasSpot(spot) ? now.table.firstMinor(rowOf(spot), columnOf(spot)) : NO;
    }

    public long factor(int spot, int part) {
        if (!now.table.hasSpot(spot) || !isNoughtOrOne(part) || !now.table.isPositive()) {
            return NO;
        }
        int row = rowOf(spot);
        int column = columnOf(spot);
        if (row == column) {
            return inLowestTerms(edgeMinor(0, row + 1, false), edgeMinor(0, row, false), part);
        }
        return factorBesideTheMiddle(Math.max(row, column), Math.min(row, column), row < column, part);
    }

    public long sum(int k) {
        if (k < 0 || k > now.table.lines()) {
            return NO;
        }
        long together = 0;
        for (int rows = 0; rows < now.table.sets(); rows++) {
            if (Integer.bitCount(rows) == k) {
                together += now.table.determinant(rows, rows);
            }
        }
        return together;
    }

    public int unlike(int k) {
        if (!isOrder(k)) {
            return BAD;
        }
        int many = 0;
        for (int rows = 1; rows < now.table.sets(); rows++) {
            for (int columns = 1; columns < now.table.sets(); columns++) {
                if (now.table.isOfOrder(rows, columns, k)) {
                    many = keepUnlike(many, now.table.determinant(rows, columns));
                }
            }
        }
        return many;
    }

    public int may(int spot, int what) {
        if (!now.table.hasSpot(spot) || what < 0 || what > 2) {
            return NONE;
        }
        drawFirstMinors(spot);
        int many = 0;
        int least = NOT_FOUND;
        int greatest = NOT_FOUND;
        for (int v = LEAST_NUMBER; v <= MOST_NUMBER; v++) {
            if (straights.areAllAbove(v)) {
                least = many == 0 ? raised(v) : least;
                greatest = raised(v);
                many++;
            }
        }
        return what == 0 ? many : what == 1 ? least : greatest;
    }

    // ---- products, paths

    public long product(int spot) {
        if (!now.table.hasSpot(spot)) {
            return NO;
        }
        multiplyChips();
        return result.atSpot(spot);
    }

    public long productMinor(int rows, int columns) {
        if (!now.table.hasMinor(rows, columns)) {
            return NO;
        }
        multiplyChips();
        return result.determinant(rows, columns);
    }

    public long paths(int rows, int columns) {
        if (!now.table.hasMinor(rows, columns)) {
            return NO;
        }
        Arrays.fill(ways, 0);
        putWays(rows, 1);
        for (int k = 0; k < now.chips.held(); k++) {
            walkThrough(now.chips.cell(k, 0), now.chips.cell(k, 1), now.chips.cell(k, 2));
        }
        return waysTo(columns);
    }

    // ---- seen, odds

    public int see(int rows, int columns, int v) {
        if (rows == -1) {
            now.seen.empty();
            return 0;
        }
        if (!now.table.hasMinor(rows, columns)) {
            return NONE;
        }
        if (v < -MOST_SEEN_VALUE || v > MOST_SEEN_VALUE) {
            return BAD;
        }
        if (now.seen.isFull()) {
            return FULL;
        }
        return now.seen.add(rows, columns, v);
    }

    public int fits(int spot, int what) {
        if (!now.table.hasSpot(spot) || !isNoughtOrOne(what)) {
            return NONE;
        }
        if (!drawSeen(spot)) {
            return 0;
        }
        int many = 0;
        int least = 0;
        for (int v = LEAST_NUMBER; v <= MOST_NUMBER; v++) {
            if (straights.areAllNought(v)) {
                least = many == 0 ? raised(v) : least;
                many++;
            }
        }
        return what == 0 ? many : least;
    }

    public long odds(int k, int part) {
        if (!isOrder(k) || !isNoughtOrOne(part)) {
            return NO;
        }
        return inLowestTerms(now.table.aboveOf(k), now.table.minorsOf(k), part);
    }

    public long mean(int part) {
        if (!isNoughtOrOne(part)) {
            return NO;
        }
        int lines = now.table.lines();
        return inLowestTerms(now.table.together(), lines * lines, part);
    }

    // ---- events, books

    public int event(int what, int n) {
        if (what == -1) {
            now.events.empty();
            return 0;
        }
        if (!isEventPlace(what, n)) {
            return NONE;
        }
        if (what == TURN && n != 0) {
            return BAD;
        }
        if (now.events.isFull()) {
            return FULL;
        }
        return now.events.add(what, n, 0);
    }

    public long after(int what) {
        if (what < 0 || what > 2) {
            return NO;
        }
        result.copyFrom(now.table);
        for (int k = 0; k < now.events.held(); k++) {
            happen(now.events.cell(k, 0), now.events.cell(k, 1));
        }
        int all = result.sets() - 1;
        return what == 0 ? result.above() : what == 1 ? result.amiss() : result.determinant(all, all);
    }

    public int book(int spot, int v) {
        if (spot == -1) {
            now.book.empty();
            return 0;
        }
        if (!now.table.hasSpot(spot)) {
            return NONE;
        }
        if (v < LEAST_NUMBER || v > MOST_NUMBER) {
            return BAD;
        }
        if (now.book.isFull()) {
            return FULL;
        }
        return now.book.add(spot, v, 0);
    }

    public int looked() {
        for (int k = 0; k < now.book.held(); k++) {
            int spot = now.book.cell(k, 0);
            if (!now.table.hasSpot(spot) || now.table.atSpot(spot) != now.book.cell(k, 1)) {
                return k;
            }
        }
        return NOT_FOUND;
    }

    // ---- judging, the image, tapes

    public int judge(int tape, int i) {
        Tape row = tapeAt(tape);
        if (row == null) {
            return NONE;
        }
        if (row.sort() != SHORTS && row.sort() != HOLDS_NOTHING) {
            return CAST;
        }
        return judgeNumbers(row, i);
    }

    public int image() {
        kept.copyFrom(now);
        imageTaken = true;
        return kept.chips.held();
    }

    public int undo() {
        if (!imageTaken) {
            return STATE;
        }
        now.copyFrom(kept);
        return now.chips.held();
    }

    public int count(int what) {
        switch (what) {
            case 0: return now.seen.held();
            case 1: return now.events.held();
            case 2: return now.book.held();
            case 3: return text.held();
            default: return BAD;
        }
    }

    public int tape(int tape, int sort, int n) {
        Tape row = tapeAt(tape);
        if (row == null) {
            return NONE;
        }
        if (sort == HOLDS_NOTHING) {
            row.become(HOLDS_NOTHING, 0);
            return 1;
        }
        if (sort < BYTES || sort > BOOLEANS || n > MOST_ITEMS) {
            return BAD;
        }
        if (n < 0) {
            return SIZE;
        }
        row.become(sort, n);
        return 1;
    }

    public int item(int tape, int i, long v) {
        Tape row = tapeAt(tape);
        if (row == null) {
            return NONE;
        }
        if (row.sort() == HOLDS_NOTHING) {
            return NOTHING;
        }
        if (!row.hasPlaces(i, 1)) {
            return PLACE;
        }
        row.put(i, v);
        return 1;
    }

    public long peek(int tape, int i) {
        Tape row = tapeAt(tape);
        return row != null && row.hasPlaces(i, 1) ? row.at(i) : NO;
    }

    public int shift(int tape, int i, int other, int j, int n) {
        Tape from = tapeAt(tape);
        Tape to = tapeAt(other);
        if (from == null || to == null) {
            return NONE;
        }
        if (from.sort() == HOLDS_NOTHING || to.sort() == HOLDS_NOTHING) {
            return NOTHING;
        }
        if (from.sort() != to.sort()) {
            return CAST;
        }
        if (!from.hasPlaces(i, n) || !to.hasPlaces(j, n)) {
            return PLACE;
        }
        from.copyItems(i, to, j, n);
        return n;
    }

    // ---- small helpers

    private static int raised(long number) {
        return (int) number + RAISE;
    }

    private static int rowOf(int spot) {
        return spot / 10;
    }

    private static int columnOf(int spot) {
        return spot % 10;
    }

    private static boolean isNoughtOrOne(int which) {
        return which == 0 || which == 1;
    }

    private boolean isOrder(int k) {
        return k >= 1 && k <= now.table.lines();
    }

    private boolean isLineWithOneBehind(int i) {
        return i >= 0 && i < now.table.lines() - 1;
    }

    private Tape tapeAt(int tape) {
        return tape >= 0 && tape < tapes.length ? tapes[tape] : null;
    }

    private static long inLowestTerms(long above, long below, int part) {
        long common = commonDivisor(above, below);
        if (common == 0) {
            return NO;
        }
        return (part == 0 ? above : below) / common;
    }

    private static long commonDivisor(long one, long other) {
        long a = Math.abs(one);
        long b = Math.abs(other);
        for (int step = 0; step < MOST_DIVISIONS && b != 0; step++) {
            long rest = a % b;
            a = b;
            b = rest;
        }
        return a;
    }

    /** THE VECTOR's numbers beyond the last line are 0, so they are left out with the others. */
    private static int changes(long[] row) {
        int many = 0;
        long last = 0;
        for (int i = 0; i < row.length; i++) {
            if (row[i] != 0) {
                if (last != 0 && last > 0 != row[i] > 0) {
                    many++;
                }
                last = row[i];
            }
        }
        return many;
    }

    private int changesOfTableTimesVector() {
        for (int row = 0; row < tableTimesVector.length; row++) {
            long together = 0;
            for (int column = 0; column < now.table.lines(); column++) {
                together += now.table.at(row, column) * now.vectorAt(column);
            }
            tableTimesVector[row] = together;
        }
        return changes(tableTimesVector);
    }

    // ---- chips: the product, and ways through them

    private boolean isChipPlace(int kind, int i) {
        switch (kind) {
            case RISE:
            case FALL: return isLineWithOneBehind(i);
            case SCALE: return i >= 0 && i < now.table.lines();
            default: return false;
        }
    }

    private static int lineAhead(int kind, int i) {
        return kind == FALL ? i + 1 : i;
    }

    private static int lineBehind(int kind, int i) {
        return kind == RISE ? i + 1 : i;
    }

    private void multiplyChips() {
        result.becomeUnit(now.table.lines());
        for (int k = 0; k < now.chips.held(); k++) {
            int kind = now.chips.cell(k, 0);
            int i = now.chips.cell(k, 1);
            int v = now.chips.cell(k, 2);
            // To multiply by a CHIP changes one column alone; a SCALE has v where the 1 was.
            result.addColumn(lineAhead(kind, i), lineBehind(kind, i), kind == SCALE ? v - 1 : v);
        }
    }

    private long waysTo(int set) {
        return set >= 0 && set < ways.length ? ways[set] : 0;
    }

    private void putWays(int set, long many) {
        if (set >= 0 && set < ways.length) {
            ways[set] = many;
        }
    }

    /** Takes the ways of a set of lines through a CHIP; a path changes lines only to a free one. */
    private void walkThrough(int kind, int i, int v) {
        int ahead = 1 << lineAhead(kind, i);
        int behind = 1 << lineBehind(kind, i);
        for (int set = 0; set < ways.length; set++) {
            if (kind == SCALE && (set & ahead) != 0) {
                putWays(set, waysTo(set) * v);
            }
            if (kind != SCALE && (set & ahead) != 0 && (set & behind) == 0) {
                int moved = set ^ ahead ^ behind;
                putWays(moved, waysTo(moved) + waysTo(set) * v);
            }
        }
    }

    // ---- minors: factors, unlike ones, straight ones

    /** D of `order` rows from `start` on and the first columns; turned: of rows and columns changed over. */
    private long edgeMinor(int start, int order, boolean turned) {
        int far = ((1 << order) - 1) << start;
        int near = (1 << order) - 1;
        return turned ? now.table.determinant(near, far) : now.table.determinant(far, near);
    }

    private long factorBesideTheMiddle(int i, int j, boolean turned, int part) {
        long above = edgeMinor(i - j, j + 1, turned) * edgeMinor(i - j - 1, j, turned);
        long below = edgeMinor(i - j, j, turned) * edgeMinor(i - j - 1, j + 1, turned);
        return inLowestTerms(above, below, part);
    }

    /** Keeps a value behind `many` unlike ones, if it is none of them: how many there are then. */
    private int keepUnlike(int many, long value) {
        for (int k = 0; k < many && k < unlikeValues.length; k++) {
            if (unlikeValues[k] == value) {
                return many;
            }
        }
        if (many < 0 || many >= unlikeValues.length) {
            return many;
        }
        unlikeValues[many] = value;
        return many + 1;
    }

    /** THE TABLE is POSITIVE if all FIRST MINORS are above 0: no others need be drawn. */
    private void drawFirstMinors(int spot) {
        straights.empty();
        for (int row = 0; row < now.table.lines(); row++) {
            for (int column = 0; column < now.table.lines(); column++) {
                int order = Math.min(row, column) + 1;
                int rows = now.table.block(row, order);
                int columns = now.table.block(column, order);
                straights.add(minorWith(spot, 0, rows, columns), minorWith(spot, 1, rows, columns));
            }
        }
    }

    /** Draws how far MINORS are from what was SEEN; false if one of them isn't there any more. */
    private boolean drawSeen(int spot) {
        straights.empty();
        for (int k = 0; k < now.seen.held(); k++) {
            int rows = now.seen.cell(k, 0);
            int columns = now.seen.cell(k, 1);
            long v = now.seen.cell(k, 2);
            if (!now.table.hasMinor(rows, columns)) {
                return false;
            }
            straights.add(minorWith(spot, 0, rows, columns) - v, minorWith(spot, 1, rows, columns) - v);
        }
        return true;
    }

    private long minorWith(int spot, int v, int rows, int columns) {
        long before = now.table.atSpot(spot);
        now.table.putSpot(spot, v);
        long value = now.table.determinant(rows, columns);
        now.table.putSpot(spot, before);
        return value;
    }

    // ---- texts, events, judging

    /** What the call that a CLAUSE stands for answers: below 0 if it is refused. */
    private int doClause(int letter, int spot, int number) {
        switch (letter) {
            case 'n': return size(spot);
            case 'a': return set(spot, number);
            case 'x': return chip(RISE, spot, number);
            case 'y': return chip(FALL, spot, number);
            case 'd': return chip(SCALE, spot, number);
            case 'z': return clear();
            case 't': return take();
            case 'f': return flip();
            case 'v': return vector(spot, number);
            default: return NONE;
        }
    }

    private boolean isEventPlace(int what, int n) {
        switch (what) {
            case MORE:
            case NOUGHT: return now.table.hasSpot(n);
            case SWAP: return isLineWithOneBehind(n);
            case TURN: return true;
            default: return false;
        }
    }

    private void happen(int what, int n) {
        switch (what) {
            case MORE:
                result.putSpot(n, Math.min(result.atSpot(n) + 1, MOST_NUMBER));
                break;
            case NOUGHT:
                result.putSpot(n, 0);
                break;
            case SWAP:
                result.swapRows(n);
                break;
            case TURN:
                result.turnOver();
                break;
            default:
                break;
        }
    }

    private int judgeNumbers(Tape row, int start) {
        int lookedAt = 0;
        for (int i = 0; i < now.table.lines(); i++) {
            for (int j = 0; j < now.table.lines(); j++) {
                int place = start + lookedAt;
                if (!row.hasPlaces(place, 1)) {
                    return RAISE + lookedAt;
                }
                if (row.at(place) != now.table.at(i, j)) {
                    return 10 * i + j;
                }
                lookedAt++;
            }
        }
        return NOT_FOUND;
    }

    // ---- what is held

    /** All that THE IMAGE holds. */
    private static final class Scene {
        final Grid table = new Grid();
        final Rows chips = new Rows(MOST_CHIPS);
        final long[] vector = new long[MOST_LINES];
        final Rows notes = new Rows(MOST_MINORS);
        final Rows seen = new Rows(MOST_SEEN);
        final Rows events = new Rows(MOST_EVENTS);
        final Rows book = new Rows(MOST_IN_BOOK);

        void copyFrom(Scene other) {
            table.copyFrom(other.table);
            chips.copyFrom(other.chips);
            for (int i = 0; i < vector.length; i++) {
                vector[i] = i < other.vector.length ? other.vector[i] : 0;
            }
            notes.copyFrom(other.notes);
            seen.copyFrom(other.seen);
            events.copyFrom(other.events);
            book.copyFrom(other.book);
        }

        boolean isInVector(int i) {
            return i >= 0 && i < table.lines();
        }

        long vectorAt(int i) {
            return isInVector(i) && i < vector.length ? vector[i] : 0;
        }

        void putInVector(int i, long v) {
            if (isInVector(i) && i < vector.length) {
                vector[i] = v;
            }
        }
    }

    /** A square of numbers and its minors: THE TABLE, THE PRODUCT, or what EVENTS leave. */
    private static final class Grid {
        private final long[] numbers = new long[MOST_LINES * MOST_LINES];
        // By set of columns: the determinant of these and of as many rows, from the first one on.
        private final long[] parts = new long[MOST_SETS];
        private int lines;

        Grid() {
            becomeUnit(FIRST_LINES);
        }

        int lines() {
            return lines;
        }

        /** How many sets of lines there are, the empty one too. */
        int sets() {
            return 1 << lines;
        }

        void becomeUnit(int wanted) {
            lines = wanted;
            for (int row = 0; row < lines; row++) {
                for (int column = 0; column < lines; column++) {
                    put(row, column, row == column ? 1 : 0);
                }
            }
        }

        void copyFrom(Grid other) {
            lines = other.lines;
            for (int row = 0; row < lines; row++) {
                for (int column = 0; column < lines; column++) {
                    put(row, column, other.at(row, column));
                }
            }
        }

        private boolean isLine(int i) {
            return i >= 0 && i < lines;
        }

        long at(int row, int column) {
            boolean there = row >= 0 && row < lines && column >= 0 && column < lines;
            int place = MOST_LINES * row + column;
            return there && place >= 0 && place < numbers.length ? numbers[place] : 0;
        }

        void put(int row, int column, long v) {
            boolean there = row >= 0 && row < lines && column >= 0 && column < lines;
            int place = MOST_LINES * row + column;
            if (there && place >= 0 && place < numbers.length) {
                numbers[place] = v;
            }
        }

        boolean hasSpot(int spot) {
            return isLine(rowOf(spot)) && isLine(columnOf(spot));
        }

        long atSpot(int spot) {
            return at(rowOf(spot), columnOf(spot));
        }

        void putSpot(int spot, long v) {
            put(rowOf(spot), columnOf(spot), v);
        }

        private void swap(int row, int column, int otherRow, int otherColumn) {
            long before = at(row, column);
            put(row, column, at(otherRow, otherColumn));
            put(otherRow, otherColumn, before);
        }

        void turnOver() {
            for (int row = 0; row < lines; row++) {
                for (int column = 0; column < row; column++) {
                    swap(row, column, column, row);
                }
            }
        }

        void turnAround() {
            int half = lines * lines / 2;
            for (int row = 0; row < lines; row++) {
                for (int column = 0; column < lines; column++) {
                    if (row * lines + column < half) {
                        swap(row, column, lines - 1 - row, lines - 1 - column);
                    }
                }
            }
        }

        /** A row and the one behind it; nothing, if one of them isn't there. */
        void swapRows(int row) {
            if (row < 0 || row >= lines - 1) {
                return;
            }
            for (int column = 0; column < lines; column++) {
                swap(row, column, row + 1, column);
            }
        }

        void addColumn(int from, int to, int times) {
            for (int row = 0; row < lines; row++) {
                put(row, to, at(row, to) + times * at(row, from));
            }
        }

        long together() {
            long whole = 0;
            for (int row = 0; row < lines; row++) {
                for (int column = 0; column < lines; column++) {
                    whole += at(row, column);
                }
            }
            return whole;
        }

        long greatest() {
            long most = at(0, 0);
            for (int row = 0; row < lines; row++) {
                for (int column = 0; column < lines; column++) {
                    most = Math.max(most, at(row, column));
                }
            }
            return most;
        }

        boolean hasMinor(int rows, int columns) {
            return rows >= 1 && rows < sets() && columns >= 1 && columns < sets()
                    && Integer.bitCount(rows) == Integer.bitCount(columns);
        }

        /**
         * Sums and products may wrap around within it: the answer is right if it is a long at all.
         * Of no rows and columns it is 1.
         */
        long determinant(int rows, int columns) {
            parts[0] = 1;
            for (int taken = 1; taken < parts.length; taken++) {
                if ((taken & ~columns) == 0) {
                    parts[taken] = expandLastRow(lineOf(rows, Integer.bitCount(taken)), taken);
                }
            }
            return partOf(columns);
        }

        private long partOf(int set) {
            return set >= 0 && set < parts.length ? parts[set] : 0;
        }

        private long expandLastRow(int row, int taken) {
            long whole = 0;
            for (int column = 0; column < lines; column++) {
                int bit = 1 << column;
                if ((taken & bit) != 0) {
                    long part = at(row, column) * partOf(taken ^ bit);
                    boolean even = Integer.bitCount(taken >> (column + 1)) % 2 == 0;
                    whole += even ? part : -part;
                }
            }
            return whole;
        }

        /** The line of a set that comes as number `rank` (from 1 on), or NONE. */
        private int lineOf(int set, int rank) {
            int passed = 0;
            for (int line = 0; line < lines; line++) {
                if ((set & 1 << line) != 0) {
                    passed++;
                    if (passed == rank) {
                        return line;
                    }
                }
            }
            return NONE;
        }

        /** The set of `order` lines that follow one another up to `last`. */
        int block(int last, int order) {
            return ((1 << order) - 1) << (last + 1 - order);
        }

        long firstMinor(int row, int column) {
            int order = Math.min(row, column) + 1;
            return determinant(block(row, order), block(column, order));
        }

        int amiss() {
            for (int row = 0; row < lines; row++) {
                for (int column = 0; column < lines; column++) {
                    if (firstMinor(row, column) <= 0) {
                        return 10 * row + column;
                    }
                }
            }
            return NOT_FOUND;
        }

        /** If all FIRST MINORS are above 0, so are all MINORS (Gasca and Pena). */
        boolean isPositive() {
            return amiss() == NOT_FOUND;
        }

        int above() {
            int many = 0;
            for (int order = 1; order <= lines; order++) {
                many += aboveOf(order);
            }
            return many;
        }

        int aboveOf(int order) {
            int many = 0;
            for (int rows = 1; rows < sets(); rows++) {
                for (int columns = 1; columns < sets(); columns++) {
                    if (isOfOrder(rows, columns, order) && determinant(rows, columns) > 0) {
                        many++;
                    }
                }
            }
            return many;
        }

        int minorsOf(int order) {
            int setsOfOrder = 0;
            for (int set = 1; set < sets(); set++) {
                if (Integer.bitCount(set) == order) {
                    setsOfOrder++;
                }
            }
            return setsOfOrder * setsOfOrder;
        }

        boolean isOfOrder(int rows, int columns, int order) {
            return Integer.bitCount(rows) == order && Integer.bitCount(columns) == order;
        }
    }

    /** Values that are straight in one number v, as a MINOR is in each number of its table. */
    private static final class Straights {
        private final long[] atNought = new long[MOST_LINES * MOST_LINES];
        private final long[] growth = new long[MOST_LINES * MOST_LINES];
        private int held;

        void empty() {
            held = 0;
        }

        void add(long byNought, long byOne) {
            if (held < 0 || held >= atNought.length || held >= growth.length) {
                return;
            }
            atNought[held] = byNought;
            growth[held] = byOne - byNought;
            held++;
        }

        private long valueBy(int k, int v) {
            boolean there = k >= 0 && k < atNought.length && k < growth.length;
            return there ? atNought[k] + growth[k] * v : 0;
        }

        boolean areAllAbove(int v) {
            for (int k = 0; k < held; k++) {
                if (valueBy(k, v) <= 0) {
                    return false;
                }
            }
            return true;
        }

        boolean areAllNought(int v) {
            for (int k = 0; k < held; k++) {
                if (valueBy(k, v) != 0) {
                    return false;
                }
            }
            return true;
        }
    }

    /** Rows of three numbers, one behind the other, so many at most. */
    private static final class Rows {
        private static final int WIDTH = 3;
        private final int[] cells;
        private final int most;
        private int held;

        Rows(int most) {
            this.most = Math.max(most, 0);
            cells = new int[WIDTH * this.most];
        }

        int held() {
            return held;
        }

        boolean isFull() {
            return held >= most;
        }

        boolean has(int row) {
            return row >= 0 && row < held;
        }

        void empty() {
            held = 0;
        }

        /** How many rows there are then. */
        int add(int one, int two, int three) {
            int start = WIDTH * held;
            if (isFull() || start < 0 || start + 2 >= cells.length) {
                return held;
            }
            cells[start] = one;
            cells[start + 1] = two;
            cells[start + 2] = three;
            held++;
            return held;
        }

        int cell(int row, int which) {
            if (!has(row) || which < 0 || which >= WIDTH) {
                return 0;
            }
            int place = WIDTH * row + which;
            return place >= 0 && place < cells.length ? cells[place] : 0;
        }

        boolean holds(int one, int two) {
            for (int row = 0; row < held; row++) {
                if (cell(row, 0) == one && cell(row, 1) == two) {
                    return true;
                }
            }
            return false;
        }

        void copyFrom(Rows other) {
            int many = other.held;
            empty();
            for (int row = 0; row < many; row++) {
                add(other.cell(row, 0), other.cell(row, 1), other.cell(row, 2));
            }
        }
    }

    /** THE TEXT, and the CLAUSES that it tells. */
    private static final class Text {
        private final int[] signs = new int[MOST_SIGNS];
        private final Rows clauses = new Rows(MOST_CLAUSES);
        private int held;
        private int place;
        private int number;

        int held() {
            return held;
        }

        boolean isFull() {
            return held >= signs.length;
        }

        void empty() {
            held = 0;
        }

        int add(int sign) {
            if (held >= 0 && held < signs.length) {
                signs[held] = sign;
                held++;
            }
            return held;
        }

        /** Rows of a letter, its digits as one number, and its NUMBER. */
        Rows clauses() {
            return clauses;
        }

        /** The FAULT; if there is none, all CLAUSES are kept. */
        int findFault() {
            clauses.empty();
            place = 0;
            for (int k = 1; k <= MOST_CLAUSES; k++) {
                if (!passClause()) {
                    return place;
                }
                if (place == held) {
                    return NOT_FOUND;
                }
                if (k == MOST_CLAUSES || !pass(';')) {
                    return place;
                }
            }
            return place;
        }

        /** Below 0: the sign is none, THE TEXT has ended. */
        private int signHere() {
            return place >= 0 && place < held && place < signs.length ? signs[place] : NONE;
        }

        private boolean isDigitHere() {
            return signHere() >= '0' && signHere() <= '9';
        }

        private boolean pass(int sign) {
            if (signHere() != sign) {
                return false;
            }
            place++;
            return true;
        }

        /** How many digits follow a letter ahead of its NUMBER; NONE: it begins no CLAUSE. */
        private static int digitsBehind(int letter) {
            switch (letter) {
                case 'a': return 2;
                case 'n':
                case 'x':
                case 'y':
                case 'd':
                case 'v': return 1;
                case 'z':
                case 't':
                case 'f': return 0;
                default: return NONE;
            }
        }

        private static boolean hasNumber(int letter) {
            return digitsBehind(letter) > 0 && letter != 'n';
        }

        private boolean passClause() {
            int letter = signHere();
            int digits = digitsBehind(letter);
            if (digits == NONE) {
                return false;
            }
            place++;
            int spot = 0;
            for (int k = 0; k < digits; k++) {
                if (!isDigitHere()) {
                    return false;
                }
                spot = 10 * spot + passDigit();
            }
            number = 0;
            if (hasNumber(letter) && !passNumber()) {
                return false;
            }
            clauses.add(letter, spot, number);
            return true;
        }

        private int passDigit() {
            int digit = signHere() - '0';
            place++;
            return digit;
        }

        private boolean passNumber() {
            boolean below = pass('-');
            if (!isDigitHere()) {
                return false;
            }
            number = passDigit();
            if (isDigitHere()) {
                number = 10 * number + passDigit();
            }
            if (below) {
                number = -number;
            }
            return true;
        }
    }

    /** A TAPE; whatever its sort, its items are held as longs cut to what an item of it can be. */
    private static final class Tape {
        private final long[] items = new long[MOST_ITEMS];
        private int sort = HOLDS_NOTHING;
        private int held;

        int sort() {
            return sort;
        }

        void become(int wanted, int many) {
            sort = wanted;
            held = many;
            Arrays.fill(items, 0);
        }

        /** Whether there are `many` places from i on; none of a TAPE that holds nothing, but 0 from 0 on. */
        boolean hasPlaces(int i, int many) {
            return i >= 0 && many >= 0 && i <= held && many <= held - i;
        }

        long at(int i) {
            return i >= 0 && i < held && i < items.length ? items[i] : 0;
        }

        void put(int i, long v) {
            if (i >= 0 && i < held && i < items.length) {
                items[i] = cut(v);
            }
        }

        private long cut(long v) {
            switch (sort) {
                case BYTES: return (byte) v;
                case SHORTS: return (short) v;
                case INTS: return (int) v;
                case BOOLEANS: return v != 0 ? 1 : 0;
                default: return v;
            }
        }

        void copyItems(int i, Tape to, int j, int many) {
            boolean inside = i <= items.length - many && j <= to.items.length - many;
            if (inside && hasPlaces(i, many) && to.hasPlaces(j, many)) {
                System.arraycopy(items, i, to.items, j, many);
            }
        }
    }
}

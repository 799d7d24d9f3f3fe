/** A finder of what comes behind what in rows of happenings. The words in capitals are the document's. */
public final class RowFinder {
    public static final int NONE = -1;

    private static final int KINDS = 16;
    private static final int HEAPS = 2;
    private static final int MOST_ROWS = 24;
    private static final int MOST_HAPPENINGS = 30;
    private static final int MOST_ITEMS = 4;
    private static final int MOST_FOUND = 2000;
    /** 30 HAPPENINGS, of which 4 are chosen. */
    private static final int MOST_MATCHES = 27405;
    /** Far more than the choices of up to 4 of 30 HAPPENINGS. */
    private static final int MOST_STEPS = 1000000;
    private static final int LAST_TICK = 9999;
    private static final int FIRST_GAP = 100;
    private static final int FIRST_SPAN = 1000;
    private static final int THOUSAND = 1000;
    private static final long MILLION = 1000000L;

    private final Kinds kinds;
    private final Matcher matcher;
    private final Finds finds;
    private final Row[] rows;
    /** Of each KIND the ROWS (bit r: ROW r) that gatherRowsBehind saw; kept here so that no call makes an array. */
    private final int[] rowsBehind;
    private int rowCount;

    public RowFinder() {
        kinds = new Kinds();
        matcher = new Matcher(kinds);
        finds = new Finds();
        rows = new Row[MOST_ROWS];
        for (int r = 0; r < MOST_ROWS; r++) {
            rows[r] = new Row();
        }
        rowsBehind = new int[KINDS];
        rowCount = 0;
    }

    public boolean under(int k, int of) {
        return isKind(k) && (of == NONE || isKind(of)) && kinds.lay(k, of);
    }

    public int row(int heap) {
        if (heap < 0 || heap >= HEAPS || rowCount >= MOST_ROWS) {
            return NONE;
        }
        rows[rowCount].begin(heap);
        rowCount++;
        return rowCount - 1;
    }

    public int put(int r, int tick, int kind) {
        return isRow(r) && isTick(tick) && isKind(kind) ? rows[r].append(tick, kind) : NONE;
    }

    public boolean take(int r, boolean is) {
        if (!isRow(r) || rows[r].in == is) {
            return false;
        }
        rows[r].in = is;
        return true;
    }

    public boolean gap(int ticks) {
        if (!isTick(ticks)) {
            return false;
        }
        matcher.gapTicks = ticks;
        return true;
    }

    public boolean span(int ticks) {
        if (!isTick(ticks)) {
            return false;
        }
        matcher.spanTicks = ticks;
        return true;
    }

    public int count(int a, int b, int c, int d) {
        int pattern = Patterns.of(a, b, c, d);
        return pattern == NONE ? NONE : countOf(pattern);
    }

    public long matches(int r, int a, int b, int c, int d) {
        int pattern = Patterns.of(a, b, c, d);
        if (!isRow(r) || pattern == NONE) {
            return NONE;
        }
        matcher.takeUp(pattern);
        return matcher.matchesIn(rows[r]);
    }

    public int match(int r, int a, int b, int c, int d, int i) {
        int pattern = Patterns.of(a, b, c, d);
        if (!isRow(r) || pattern == NONE) {
            return NONE;
        }
        matcher.takeUp(pattern);
        return matcher.placeInFirst(rows[r], i);
    }

    public int find(int m, int n) {
        if (m < 1 || m > MOST_ROWS || n < 1 || n > MOST_ITEMS) {
            return NONE;
        }
        finds.forget();
        findLonger(Patterns.EMPTY, rowsIn(), m);
        // What enough ROWS have begins with what enough ROWS have; so what is FOUND is the queue of what to lengthen.
        for (int i = 0; i < finds.size() && i < MOST_FOUND; i++) {
            if (finds.isFull() || Patterns.length(finds.patternAt(i)) >= n) {
                break;
            }
            findLonger(finds.patternAt(i), finds.rowsThenAt(i), m);
        }
        return finds.size();
    }

    public int found(int i, int k) {
        if (!finds.holds(i)) {
            return NONE;
        }
        if (k == 4) {
            return Integer.bitCount(finds.rowsThenAt(i));
        }
        return k == 5 ? Patterns.length(finds.patternAt(i)) : Patterns.item(finds.patternAt(i), k);
    }

    public int closed(int i) {
        if (!finds.holds(i)) {
            return NONE;
        }
        int pattern = finds.patternAt(i);
        int times = countOf(pattern);
        return longerSays(pattern, times) || narrowerSays(pattern, times) ? 0 : 1;
    }

    public int best() {
        int heap0 = rowsInOf(0);
        int heap1 = rowsInOf(1);
        int best = NONE;
        int widest = NONE;
        int gathered = NONE;
        for (int i = 0; i < finds.size(); i++) {
            int pattern = finds.patternAt(i);
            int begin = Patterns.withoutLast(pattern);
            // Those that differ in their last ITEM alone stand side by side: the ROWS are walked once for all of them.
            if (begin != gathered) {
                gatherRowsBehind(begin, heap0 | heap1);
                gathered = begin;
            }
            int apart = howFarApart(rowsBehind[Patterns.lastItem(pattern)], heap0, heap1);
            if (apart > widest) {
                widest = apart;
                best = i;
            }
        }
        return best;
    }

    public long expected(int a, int b) {
        if (!isKind(a) || !isKind(b) || kinds.is(a, b) || kinds.is(b, a)) {
            return NONE;
        }
        long sum = 0;
        for (int r = 0; r < rowCount; r++) {
            if (rows[r].in) {
                sum += chanceAhead(rows[r].howMany(kinds, a), rows[r].howMany(kinds, b));
            }
        }
        return sum;
    }

    public int share(int a, int b, int c, int d) {
        int pattern = Patterns.of(a, b, c, d);
        if (Patterns.length(pattern) < 2) {
            return NONE;
        }
        int begun = countOf(Patterns.withoutLast(pattern));
        return begun == 0 ? 0 : countOf(pattern) * THOUSAND / begun;
    }

    public int lacking(int a, int b, int c, int d, int i) {
        int left = rowsLacking(Patterns.of(a, b, c, d));
        int seen = 0;
        for (int r = 0; r < rowCount; r++) {
            if (isAmong(r, left)) {
                if (seen == i) {
                    return r;
                }
                seen++;
            }
        }
        return NONE;
    }

    public int sure(int r, int a, int b, int c, int d) {
        int pattern = Patterns.of(a, b, c, d);
        if (!isRow(r) || !isAmong(r, rowsLacking(pattern))) {
            return NONE;
        }
        matcher.takeUp(Patterns.withoutLast(pattern));
        return Math.min(LAST_TICK, matcher.lastEnd(rows[r]) + matcher.gapTicks);
    }

    public int look(int r, int i, int what) {
        if (!isRow(r)) {
            return NONE;
        }
        if (i == NONE) {
            return lookAtRow(rows[r], what);
        }
        switch (what) {
            case 0: return rows[r].tickAt(i);
            case 1: return rows[r].kindAt(i);
            default: return NONE;
        }
    }

    public int isUnder(int k, int of) {
        if (!isKind(k) || !isKind(of)) {
            return NONE;
        }
        return k != of && kinds.is(k, of) ? 1 : 0;
    }

    public int tell(int what) {
        switch (what) {
            case 0: return rowCount;
            case 1: return Integer.bitCount(rowsIn());
            case 2: return matcher.gapTicks;
            case 3: return matcher.spanTicks;
            case 4: return finds.size();
            case 5: return happeningsInAll();
            default: return NONE;
        }
    }

    private static boolean isKind(int kind) {
        return kind >= 0 && kind < KINDS;
    }

    private static boolean isTick(int tick) {
        return tick >= 0 && tick <= LAST_TICK;
    }

    private static boolean isAmong(int r, int someRows) {
        return (someRows >> r & 1) != 0;
    }

    private boolean isRow(int r) {
        return r >= 0 && r < rowCount;
    }

    private static int lookAtRow(Row row, int what) {
        switch (what) {
            case 0: return row.heap;
            case 1: return row.in ? 1 : 0;
            case 2: return row.size();
            default: return NONE;
        }
    }

    private int happeningsInAll() {
        int sum = 0;
        for (int r = 0; r < rowCount; r++) {
            sum += rows[r].size();
        }
        return sum;
    }

    private int rowsInOf(int heap) {
        int some = 0;
        for (int r = 0; r < rowCount; r++) {
            if (rows[r].in && rows[r].heap == heap) {
                some |= 1 << r;
            }
        }
        return some;
    }

    private int rowsIn() {
        return rowsInOf(0) | rowsInOf(1);
    }

    private int rowsWith(int pattern) {
        matcher.takeUp(pattern);
        int some = 0;
        for (int r = 0; r < rowCount; r++) {
            if (rows[r].in && matcher.isIn(rows[r])) {
                some |= 1 << r;
            }
        }
        return some;
    }

    private int countOf(int pattern) {
        return Integer.bitCount(rowsWith(pattern));
    }

    /** Empty where there is no PATTERN or only one ITEM: nothing can be lacking then. */
    private int rowsLacking(int pattern) {
        return Patterns.length(pattern) < 2 ? 0 : rowsWith(Patterns.withoutLast(pattern)) & ~rowsWith(pattern);
    }

    /** Sets down, for each KIND, which of some ROWS have the PATTERN with that KIND behind it. */
    private void gatherRowsBehind(int pattern, int some) {
        matcher.takeUp(pattern);
        for (int kind = 0; kind < KINDS; kind++) {
            rowsBehind[kind] = 0;
        }
        for (int r = 0; r < rowCount; r++) {
            int next = isAmong(r, some) ? matcher.kindsBehind(rows[r]) : 0;
            for (int kind = 0; kind < KINDS; kind++) {
                rowsBehind[kind] |= (next >> kind & 1) << r;
            }
        }
    }

    private void findLonger(int pattern, int some, int least) {
        gatherRowsBehind(pattern, some);
        for (int kind = 0; kind < KINDS; kind++) {
            if (Integer.bitCount(rowsBehind[kind]) >= least) {
                finds.add(Patterns.insert(pattern, 0, kind), rowsBehind[kind]);
            }
        }
    }

    private boolean longerSays(int pattern, int times) {
        int length = Patterns.length(pattern);
        for (int after = 0; length < MOST_ITEMS && after <= length; after++) {
            for (int kind = 0; kind < KINDS; kind++) {
                if (countOf(Patterns.insert(pattern, after, kind)) == times) {
                    return true;
                }
            }
        }
        return false;
    }

    private boolean narrowerSays(int pattern, int times) {
        int length = Patterns.length(pattern);
        for (int k = 0; k < length; k++) {
            int item = Patterns.item(pattern, k);
            for (int kind = 0; kind < KINDS; kind++) {
                if (kinds.liesJustUnder(kind, item) && countOf(Patterns.replace(pattern, k, kind)) == times) {
                    return true;
                }
            }
        }
        return false;
    }

    private static int howFarApart(int some, int heap0, int heap1) {
        int with0 = Integer.bitCount(some & heap0);
        int with1 = Integer.bitCount(some & heap1);
        return Math.abs(with0 * Integer.bitCount(heap1) - with1 * Integer.bitCount(heap0));
    }

    private static long chanceAhead(int x, int y) {
        long ways = waysToChoose(x, x + y);
        // One way alone: x or y is 0, and the document's number would be 0 too.
        return ways <= 1 ? 0 : MILLION - MILLION / ways;
    }

    private static long waysToChoose(int few, int all) {
        long ways = 1;
        for (int i = 1; i <= few; i++) {
            ways = ways * (all - few + i) / i;
        }
        return ways;
    }

    /**
     * A PATTERN as one number: a leading 1, then a hex digit for each ITEM. So the order of the numbers is the
     * order in which PATTERNS are FOUND, and none needs an object.
     */
    private static final class Patterns {
        static final int EMPTY = 1;
        private static final int BITS = 4;
        private static final int DIGIT = 15;

        private Patterns() {
        }

        /** NONE if these are no PATTERN. */
        static int of(int a, int b, int c, int d) {
            if (!isKind(a) || !isKindOrNone(b) || !isKindOrNone(c) || !isKindOrNone(d)) {
                return NONE;
            }
            if (b == NONE && c != NONE || c == NONE && d != NONE) {
                return NONE;
            }
            return lengthen(lengthen(lengthen(lengthen(EMPTY, a), b), c), d);
        }

        private static boolean isKindOrNone(int kind) {
            return kind == NONE || isKind(kind);
        }

        private static int lengthen(int pattern, int kind) {
            return kind == NONE ? pattern : insert(pattern, 0, kind);
        }

        /** 0 for what is no PATTERN. */
        static int length(int pattern) {
            int length = 0;
            while (length < MOST_ITEMS && pattern >> BITS * (length + 1) > 0) {
                length++;
            }
            return length;
        }

        static int item(int pattern, int k) {
            int length = length(pattern);
            return k < 0 || k >= length ? NONE : pattern >> BITS * (length - 1 - k) & DIGIT;
        }

        static int lastItem(int pattern) {
            return pattern & DIGIT;
        }

        static int withoutLast(int pattern) {
            return pattern >> BITS;
        }

        /** With one ITEM more, behind which so many of the old ones stand. */
        static int insert(int pattern, int after, int kind) {
            int shift = BITS * after;
            int tail = pattern & (1 << shift) - 1;
            return (pattern >> shift << BITS | kind) << shift | tail;
        }

        static int replace(int pattern, int k, int kind) {
            int shift = BITS * (length(pattern) - 1 - k);
            return pattern & ~(DIGIT << shift) | kind << shift;
        }
    }

    /** Which KIND lies UNDER which. */
    private static final class Kinds {
        /** Of each KIND, bit k: a HAPPENING of it IS of KIND k. */
        final int[] wider;
        private final int[] justOver;

        Kinds() {
            justOver = new int[KINDS];
            wider = new int[KINDS];
            for (int kind = 0; kind < KINDS; kind++) {
                justOver[kind] = NONE;
                wider[kind] = 1 << kind;
            }
        }

        /** False, and nothing changed, if one would be UNDER itself. */
        boolean lay(int kind, int over) {
            if (over != NONE && is(over, kind)) {
                return false;
            }
            justOver[kind] = over;
            for (int each = 0; each < KINDS; each++) {
                wider[each] = climb(each);
            }
            return true;
        }

        private int climb(int kind) {
            int met = 0;
            int at = kind;
            for (int step = 0; step < KINDS && at != NONE; step++) {
                met |= 1 << at;
                at = justOver[at];
            }
            return met;
        }

        boolean is(int own, int kind) {
            return (wider[own] >> kind & 1) != 0;
        }

        boolean liesJustUnder(int kind, int over) {
            return justOver[kind] == over;
        }
    }

    /** HAPPENINGS in the order of their TICKS. */
    private static final class Row {
        int heap;
        boolean in;
        private final int[] ticks;
        private final int[] ownKinds;
        private int size;

        Row() {
            ticks = new int[MOST_HAPPENINGS];
            ownKinds = new int[MOST_HAPPENINGS];
        }

        void begin(int ofHeap) {
            heap = ofHeap;
            in = true;
            size = 0;
        }

        /** The PLACE; NONE if the ROW is full or the TICK ahead of the last one's. */
        int append(int tick, int kind) {
            if (size >= MOST_HAPPENINGS || tick < tickAt(size - 1)) {
                return NONE;
            }
            ticks[size] = tick;
            ownKinds[size] = kind;
            size++;
            return size - 1;
        }

        int size() {
            return size;
        }

        int tickAt(int place) {
            return place >= 0 && place < size ? ticks[place] : NONE;
        }

        int kindAt(int place) {
            return place >= 0 && place < size ? ownKinds[place] : NONE;
        }

        /** What a table has for the HAPPENING's own KIND. */
        int bitsAt(int place, int[] ofKinds) {
            return place >= 0 && place < size ? ofKinds[ownKinds[place]] : 0;
        }

        int howMany(Kinds kinds, int kind) {
            int many = 0;
            for (int place = 0; place < size; place++) {
                many += bitsAt(place, kinds.wider) >> kind & 1;
            }
            return many;
        }
    }

    /**
     * Looks for one PATTERN, which it has taken up, in ROWS.
     *
     * <p>A chain is a MATCH of the first ITEMS. Walking a ROW it is enough to keep, for each number of ITEMS, the one
     * chain that ended last and, of those that ended there, began last. No other one is nearer to what comes by GAP.
     * None is nearer by SPAN either: each chain is built on the last shorter one, so one that ends later begins no
     * earlier.
     */
    private static final class Matcher {
        int gapTicks;
        int spanTicks;
        private final Kinds kinds;
        private int length;
        /** Of each KIND, bit k: a HAPPENING of it can stand for ITEM k. */
        private final int[] fits;
        private final int[] chainBegins;
        private final int[] chainEnds;
        private final int[] places;

        Matcher(Kinds theKinds) {
            kinds = theKinds;
            gapTicks = FIRST_GAP;
            spanTicks = FIRST_SPAN;
            fits = new int[KINDS];
            chainBegins = new int[MOST_ITEMS];
            chainEnds = new int[MOST_ITEMS];
            places = new int[MOST_ITEMS];
        }

        void takeUp(int pattern) {
            length = Patterns.length(pattern);
            for (int own = 0; own < KINDS; own++) {
                int wider = kinds.wider[own];
                int rest = pattern;
                fits[own] = 0;
                for (int k = length - 1; k >= 0; k--) {
                    fits[own] |= (wider >> Patterns.lastItem(rest) & 1) << k;
                    rest = Patterns.withoutLast(rest);
                }
            }
        }

        boolean isIn(Row row) {
            loseChains();
            for (int place = 0; place < row.size(); place++) {
                if (endsMatch(row, place)) {
                    return true;
                }
            }
            return false;
        }

        /** The last TICK at which a MATCH ends, NONE if there is no MATCH. */
        int lastEnd(Row row) {
            loseChains();
            int last = NONE;
            for (int place = 0; place < row.size(); place++) {
                if (endsMatch(row, place)) {
                    last = row.tickAt(place);
                }
            }
            return last;
        }

        /** Bit k: the ROW has the PATTERN with KIND k put behind it. */
        int kindsBehind(Row row) {
            loseChains();
            int some = 0;
            for (int place = 0; place < row.size(); place++) {
                if (canFollow(length, row.tickAt(place))) {
                    some |= row.bitsAt(place, kinds.wider);
                }
                endsMatch(row, place);
            }
            return some;
        }

        private void loseChains() {
            for (int k = 0; k < MOST_ITEMS; k++) {
                chainBegins[k] = NONE;
                chainEnds[k] = NONE;
            }
        }

        /** Goes on to the next PLACE of a walk; whether a MATCH ends there. */
        private boolean endsMatch(Row row, int place) {
            int fit = row.bitsAt(place, fits);
            int tick = row.tickAt(place);
            boolean ends = false;
            // The longest first: no HAPPENING may come behind itself.
            for (int k = length - 1; fit != 0 && k >= 0; k--) {
                if ((fit >> k & 1) != 0 && canFollow(k, tick)) {
                    chainBegins[k] = k == 0 ? tick : chainBegins[k - 1];
                    chainEnds[k] = tick;
                    ends |= k == length - 1;
                }
            }
            return ends;
        }

        /** Whether a chain of so many ITEMS has ended from which GAP and SPAN still reach to the TICK. */
        private boolean canFollow(int items, int tick) {
            if (items == 0) {
                return true;
            }
            int last = items - 1;
            return chainEnds[last] != NONE && tick - chainEnds[last] <= gapTicks
                && tick - chainBegins[last] <= spanTicks;
        }

        long matchesIn(Row row) {
            long many = 0;
            boolean another = goToFirstMatch(row);
            while (another && many < MOST_MATCHES) {
                many++;
                another = goToNextMatch(row, length - 1);
            }
            return many;
        }

        int placeInFirst(Row row, int i) {
            return i >= 0 && i < length && goToFirstMatch(row) ? places[i] : NONE;
        }

        private boolean goToFirstMatch(Row row) {
            places[0] = NONE;
            return goToNextMatch(row, 0);
        }

        /** Moves the ITEM from its PLACE, and others as need be, to the least MATCH behind; false if there is none. */
        private boolean goToNextMatch(Row row, int from) {
            int k = from;
            for (int step = 0; step < MOST_STEPS && k >= 0; step++) {
                places[k] = nextPlace(row, k);
                if (places[k] == NONE) {
                    k--;
                } else if (k >= length - 1) {
                    return true;
                } else {
                    places[k + 1] = places[k];
                    k++;
                }
            }
            return false;
        }

        private int nextPlace(Row row, int k) {
            for (int place = places[k] + 1; place < row.size(); place++) {
                if (canStandAt(row, place, k)) {
                    return place;
                }
            }
            return NONE;
        }

        private boolean canStandAt(Row row, int place, int k) {
            if ((row.bitsAt(place, fits) >> k & 1) == 0) {
                return false;
            }
            int tick = row.tickAt(place);
            return k == 0 || tick - row.tickAt(places[k - 1]) <= gapTicks
                && tick - row.tickAt(places[0]) <= spanTicks;
        }
    }

    /** What was FOUND last, in its order. */
    private static final class Finds {
        private final int[] patterns;
        /** The ROWS that had it then; kept for its COUNT, and since what is longer is in these alone. */
        private final int[] rowsThen;
        private int size;

        Finds() {
            patterns = new int[MOST_FOUND];
            rowsThen = new int[MOST_FOUND];
            size = 0;
        }

        void forget() {
            size = 0;
        }

        void add(int pattern, int someRows) {
            if (size < MOST_FOUND) {
                patterns[size] = pattern;
                rowsThen[size] = someRows;
                size++;
            }
        }

        boolean isFull() {
            return size >= MOST_FOUND;
        }

        boolean holds(int i) {
            return i >= 0 && i < size;
        }

        int size() {
            return size;
        }

        int patternAt(int i) {
            return holds(i) ? patterns[i] : NONE;
        }

        int rowsThenAt(int i) {
            return holds(i) ? rowsThen[i] : 0;
        }
    }
}

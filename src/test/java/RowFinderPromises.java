/** Each promise of the document by its number: ordinary inputs, the edges that it names, and wrong inputs. */
public final class RowFinderPromises {
    private static final int NONE = -1;
    private static final int LOW = Integer.MIN_VALUE;
    private static final int HIGH = Integer.MAX_VALUE;
    private static int promise = 0;
    private static int wrong = 0;

    private static void due(String call, long got, long want) {
        if (got != want) {
            wrong++;
            System.out.println("promise " + promise + ": " + call + " answered " + got + ", due is " + want);
        }
    }

    private static void due(String call, boolean got, boolean want) {
        due(call, got ? 1 : 0, want ? 1 : 0);
    }

    /** A ROW whose HAPPENINGS are told as TICK, KIND, TICK, KIND .. */
    private static int rowOf(RowFinder x, int heap, int... ticksAndKinds) {
        int r = x.row(heap);
        for (int i = 0; i + 1 < ticksAndKinds.length; i += 2) {
            due("put into a new ROW", x.put(r, ticksAndKinds[i], ticksAndKinds[i + 1]), i / 2);
        }
        return r;
    }

    private static int one(RowFinder x, int a) {
        return x.count(a, NONE, NONE, NONE);
    }

    private static int two(RowFinder x, int a, int b) {
        return x.count(a, b, NONE, NONE);
    }

    private static void newObject() {
        RowFinder x = new RowFinder();
        due("NONE", RowFinder.NONE, -1);
        int[] told = {0, 0, 100, 1000, 0, 0};
        for (int what = 0; what < told.length; what++) {
            due("tell(" + what + ")", x.tell(what), told[what]);
        }
        for (int k = 0; k < 16; k++) {
            for (int of = 0; of < 16; of++) {
                due("isUnder", x.isUnder(k, of), 0);
            }
            due("count", one(x, k), 0);
        }
        due("found(0, 0)", x.found(0, 0), NONE);
        due("found(0, 4)", x.found(0, 4), NONE);
        due("closed(0)", x.closed(0), NONE);
        due("best()", x.best(), NONE);
        due("look(0, NONE, 0)", x.look(0, NONE, 0), NONE);
        due("find(1, 4)", x.find(1, 4), 0);
        RowFinder y = new RowFinder();
        rowOf(y, 0, 1, 1);
        y.under(1, 2);
        due("another object's ROWS", x.tell(0), 0);
        due("another object's KINDS", x.isUnder(1, 2), 0);
    }

    private static void under() {
        RowFinder x = new RowFinder();
        due("under(1, 0)", x.under(1, 0), true);
        due("the same again", x.under(1, 0), true);
        due("under none, which it is", x.under(5, NONE), true);
        due("itself", x.under(1, 1), false);
        due("a ring of two", x.under(0, 1), false);
        int[] bad = {-1, -2, 16, LOW, HIGH};
        for (int k : bad) {
            due("under(" + k + ", 0)", x.under(k, 0), false);
            due("under(" + k + ", NONE)", x.under(k, NONE), false);
            due("under(2, " + k + ")", x.under(2, k), k == NONE);
        }
        due("it stays", x.isUnder(1, 0), 1);
        for (int k = 2; k < 16; k++) {
            due("a chain of all", x.under(k, k - 1), true);
        }
        due("the whole chain", x.isUnder(15, 0), 1);
        due("a ring of all", x.under(0, 15), false);
        due("a refused one changed nothing", x.isUnder(0, 15), 0);
        due("under another now", x.under(8, 0), true);
        due("no longer under the old one", x.isUnder(8, 7), 0);
        due("nor what is below it", x.isUnder(15, 7), 0);
        due("what is below came along", x.isUnder(15, 0), 1);
        due("no ring any more", x.under(7, 15), true);
        due("now below", x.isUnder(7, 8), 1);
        rowOf(x, 0, 0, 9);
        due("a HAPPENING IS of what its KIND lies under", one(x, 8), 1);
        x.under(9, NONE);
        due("and is not when it no longer does", one(x, 8), 0);
        due("but is of its own", one(x, 9), 1);
        RowFinder y = new RowFinder();
        due("under(0, 15)", y.under(0, 15), true);
        due("KIND 0 can lie UNDER another", y.isUnder(0, 15), 1);
    }

    private static void row() {
        RowFinder x = new RowFinder();
        int[] bad = {-1, 2, LOW, HIGH};
        for (int heap : bad) {
            due("row(" + heap + ")", x.row(heap), NONE);
        }
        due("none was made", x.tell(0), 0);
        for (int r = 0; r < 24; r++) {
            due("row", x.row(r % 2), r);
            due("its HEAP", x.look(r, NONE, 0), r % 2);
            due("it is IN", x.look(r, NONE, 1), 1);
            due("it is empty", x.look(r, NONE, 2), 0);
        }
        due("a 25th", x.row(0), NONE);
        due("24 are there", x.tell(0), 24);
        due("all are IN", x.tell(1), 24);
        due("all are empty", x.tell(5), 0);
    }

    private static void put() {
        RowFinder x = new RowFinder();
        due("no ROW yet", x.put(0, 0, 0), NONE);
        x.row(0);
        int[] badRows = {-1, 1, 24, LOW, HIGH};
        for (int r : badRows) {
            due("put(" + r + ", ..)", x.put(r, 0, 0), NONE);
        }
        int[] badTicks = {-1, 10000, LOW, HIGH};
        for (int t : badTicks) {
            due("tick " + t, x.put(0, t, 0), NONE);
        }
        int[] badKinds = {-1, 16, LOW, HIGH};
        for (int k : badKinds) {
            due("kind " + k, x.put(0, 0, k), NONE);
        }
        due("none was put", x.tell(5), 0);
        due("the first", x.put(0, 7, 15), 0);
        due("ahead of it", x.put(0, 6, 0), NONE);
        due("at the same TICK", x.put(0, 7, 0), 1);
        due("the last TICK", x.put(0, 9999, 3), 2);
        due("ahead of that", x.put(0, 9998, 3), NONE);
        for (int i = 3; i < 30; i++) {
            due("put", x.put(0, 9999, i % 16), i);
        }
        due("a 31st", x.put(0, 9999, 3), NONE);
        due("30 are there", x.look(0, NONE, 2), 30);
        x.row(1);
        x.take(1, false);
        due("into a ROW that is OUT", x.put(1, 0, 0), 0);
        due("the first at TICK 0", x.look(1, 0, 0), 0);
    }

    private static void take() {
        RowFinder x = new RowFinder();
        due("no ROW yet", x.take(0, false), false);
        rowOf(x, 0, 0, 1);
        rowOf(x, 1, 0, 1);
        due("it is IN", x.take(0, true), false);
        due("OUT", x.take(0, false), true);
        due("it is OUT", x.take(0, false), false);
        due("look", x.look(0, NONE, 1), 0);
        due("the other one", x.look(1, NONE, 1), 1);
        due("count", one(x, 1), 1);
        due("IN", x.take(0, true), true);
        due("count", one(x, 1), 2);
        int[] bad = {-1, 2, 24, LOW, HIGH};
        for (int r : bad) {
            due("take(" + r + ", false)", x.take(r, false), false);
            due("take(" + r + ", true)", x.take(r, true), false);
        }
    }

    private static void gap() {
        RowFinder x = new RowFinder();
        rowOf(x, 0, 0, 1, 100, 2, 201, 3);
        due("100 at first", two(x, 1, 2), 1);
        due("101 is too much", two(x, 2, 3), 0);
        due("gap(101)", x.gap(101), true);
        due("now it is not", two(x, 2, 3), 1);
        due("each gap alone counts", x.count(1, 2, 3, NONE), 1);
        due("but 201 does not go", two(x, 1, 3), 0);
        int[] bad = {-1, 10000, LOW, HIGH};
        for (int t : bad) {
            due("gap(" + t + ")", x.gap(t), false);
            due("it stays", x.tell(2), 101);
        }
        due("the same again", x.gap(101), true);
        due("gap(9999)", x.gap(9999), true);
        due("gap(0)", x.gap(0), true);
        due("tell", x.tell(2), 0);
        rowOf(x, 0, 5, 1, 5, 2);
        due("the same TICK is within 0", two(x, 1, 2), 1);
        due("but only in the order of PLACES", two(x, 2, 1), 0);
    }

    private static void span() {
        RowFinder x = new RowFinder();
        rowOf(x, 0, 0, 1, 500, 2, 1000, 3, 1001, 4);
        x.gap(9999);
        due("1000 at first", x.count(1, 2, 3, NONE), 1);
        due("1001 is too much", x.count(1, 2, 4, NONE), 0);
        due("without the first it is not", two(x, 2, 4), 1);
        due("span(1001)", x.span(1001), true);
        due("now it is not", x.count(1, 2, 4, NONE), 1);
        int[] bad = {-1, 10000, LOW, HIGH};
        for (int t : bad) {
            due("span(" + t + ")", x.span(t), false);
            due("it stays", x.tell(3), 1001);
        }
        due("span(9999)", x.span(9999), true);
        due("span(0)", x.span(0), true);
        due("tell", x.tell(3), 0);
        due("one ITEM has no span", one(x, 4), 1);
        due("two have", two(x, 3, 4), 0);
        RowFinder y = new RowFinder();
        rowOf(y, 0, 0, 1, 5, 2, 10, 1, 15, 2, 20, 3);
        y.span(10);
        due("a later begin is within the SPAN", y.count(1, 2, 3, NONE), 1);
        y.span(9);
        due("and then not", y.count(1, 2, 3, NONE), 0);
    }

    private static void count() {
        RowFinder x = new RowFinder();
        x.under(1, 0);
        x.under(2, 1);
        rowOf(x, 0, 0, 2, 1, 2);
        rowOf(x, 1, 0, 1);
        rowOf(x, 0, 0, 0);
        rowOf(x, 0);
        due("0", one(x, 0), 3);
        due("1", one(x, 1), 2);
        due("2", one(x, 2), 1);
        due("twice the same needs two HAPPENINGS", two(x, 2, 2), 1);
        due("and here there are not", x.count(2, 2, 2, NONE), 0);
        due("wide and narrow", two(x, 0, 2), 1);
        x.take(0, false);
        due("OUT does not count", one(x, 0), 2);
        int[][] bad = {{NONE, NONE, NONE, NONE}, {NONE, 1, NONE, NONE}, {1, NONE, 1, NONE}, {1, NONE, NONE, 1},
            {1, 1, NONE, 1}, {16, NONE, NONE, NONE}, {1, 16, NONE, NONE}, {1, 1, 16, NONE}, {1, 1, 1, 16},
            {-2, NONE, NONE, NONE}, {1, -2, NONE, NONE}, {1, 1, -2, NONE}, {1, 1, 1, -2}, {LOW, 1, 1, 1},
            {1, HIGH, 1, 1}, {NONE, NONE, NONE, 1}};
        for (int[] p : bad) {
            String told = p[0] + ", " + p[1] + ", " + p[2] + ", " + p[3];
            due("count(" + told + ")", x.count(p[0], p[1], p[2], p[3]), NONE);
            due("matches(0, " + told + ")", x.matches(0, p[0], p[1], p[2], p[3]), NONE);
            due("match(0, " + told + ", 0)", x.match(0, p[0], p[1], p[2], p[3], 0), NONE);
            due("share(" + told + ")", x.share(p[0], p[1], p[2], p[3]), NONE);
            due("lacking(" + told + ", 0)", x.lacking(p[0], p[1], p[2], p[3], 0), NONE);
            due("sure(0, " + told + ")", x.sure(0, p[0], p[1], p[2], p[3]), NONE);
        }
    }

    private static void matches() {
        RowFinder x = new RowFinder();
        rowOf(x, 0, 0, 1, 10, 1, 20, 2, 30, 2, 40, 1);
        due("one ITEM", x.matches(0, 1, NONE, NONE, NONE), 3);
        due("two", x.matches(0, 1, 2, NONE, NONE), 4);
        due("three", x.matches(0, 1, 2, 1, NONE), 4);
        due("four", x.matches(0, 1, 1, 2, 2), 1);
        due("none", x.matches(0, 2, 2, 2, NONE), 0);
        x.gap(10);
        due("by GAP", x.matches(0, 1, 2, NONE, NONE), 1);
        x.gap(100);
        x.span(20);
        due("by SPAN", x.matches(0, 1, 2, NONE, NONE), 3);
        x.take(0, false);
        due("OUT", x.matches(0, 1, 2, NONE, NONE), 3);
        int[] bad = {-1, 1, 24, LOW, HIGH};
        for (int r : bad) {
            due("matches(" + r + ", ..)", x.matches(r, 1, NONE, NONE, NONE), NONE);
        }
        RowFinder y = new RowFinder();
        y.row(0);
        y.under(1, 0);
        for (int i = 0; i < 30; i++) {
            y.put(0, i, i % 2);
        }
        due("all of 30", y.matches(0, 0, 0, 0, 0), 27405);
        due("all of 15", y.matches(0, 1, 1, 1, 1), 1365);
    }

    private static void match() {
        RowFinder x = new RowFinder();
        rowOf(x, 0, 0, 1, 10, 2, 200, 1, 210, 2, 250, 2, 300, 3);
        int[] first = {2, 3, 5};
        for (int i = 0; i < 3; i++) {
            due("the first that goes on to the end, " + i, x.match(0, 1, 2, 3, NONE, i), first[i]);
        }
        due("it has but three", x.match(0, 1, 2, 3, NONE, 3), NONE);
        x.gap(60);
        due("the second cannot be 3 now", x.match(0, 1, 2, 3, NONE, 1), 4);
        x.gap(9999);
        due("the first of all now", x.match(0, 1, 2, 3, NONE, 0), 0);
        due("and its second", x.match(0, 1, 2, 3, NONE, 1), 1);
        x.span(100);
        due("by SPAN", x.match(0, 1, 2, 3, NONE, 0), 2);
        due("four", x.match(0, 1, 2, 2, 3, 3), 5);
        due("none", x.match(0, 3, 1, NONE, NONE, 0), NONE);
        x.take(0, false);
        due("OUT", x.match(0, 1, NONE, NONE, NONE, 0), 0);
        int[] bad = {-1, 1, 4, LOW, HIGH};
        for (int b : bad) {
            due("PLACE " + b, x.match(0, 1, NONE, NONE, NONE, b), NONE);
            due("ROW " + b, x.match(b, 1, NONE, NONE, NONE, 0), NONE);
        }
    }

    private static RowFinder threeRows() {
        RowFinder x = new RowFinder();
        x.under(5, 4);
        rowOf(x, 0, 0, 5, 10, 3);
        rowOf(x, 0, 0, 5, 10, 3);
        rowOf(x, 1, 0, 3, 10, 4);
        return x;
    }

    private static void find() {
        RowFinder x = threeRows();
        due("find(1, 1)", x.find(1, 1), 3);
        due("find(2, 2)", x.find(2, 2), 5);
        int[][] bad = {{0, 1}, {25, 1}, {1, 0}, {1, 5}, {-1, -1}, {LOW, 1}, {HIGH, 1}, {1, LOW}, {1, HIGH}};
        for (int[] b : bad) {
            due("find(" + b[0] + ", " + b[1] + ")", x.find(b[0], b[1]), NONE);
            due("what was FOUND stays", x.tell(4), 5);
            due("each of it", x.found(4, 0), 5);
        }
        x.take(0, false);
        due("by ROWS that are IN", x.find(2, 2), 2);
        due("find(24, 4)", x.find(24, 4), 0);
        due("that replaced what was FOUND", x.tell(4), 0);
        due("tell", x.found(0, 0), NONE);
        RowFinder y = new RowFinder();
        y.row(0);
        for (int i = 0; i < 30; i++) {
            y.put(0, i, i % 16);
        }
        due("up to 3 ITEMS", y.find(1, 3), 2000);
        due("at most 2000", y.find(1, 4), 2000);
        due("the last one told", y.found(1999, 5), 3);
        due("the one of 16 first", y.found(15, 0), 15);
        due("none behind", y.found(2000, 0), NONE);
        due("each single one", y.find(1, 1), 16);
        for (int r = 1; r < 24; r++) {
            rowOf(y, r % 2, 0, 7, 1, 8);
        }
        due("what all of 24 ROWS have", y.find(24, 4), 3);
        due("its COUNT", y.found(2, 4), 24);
        RowFinder z = new RowFinder();
        rowOf(z, 0, 0, 1, 90, 2, 180, 3);
        due("the middle bridges the GAP", z.find(1, 3), 6);
        due("1, 2, 3", z.found(5, 2), 3);
    }

    private static void found() {
        RowFinder x = threeRows();
        x.find(2, 2);
        int[][] all = {{3, NONE, 3, 1}, {4, NONE, 3, 1}, {5, NONE, 2, 1}, {4, 3, 2, 2}, {5, 3, 2, 2}};
        for (int i = 0; i < all.length; i++) {
            due("ITEM 0 of " + i, x.found(i, 0), all[i][0]);
            due("ITEM 1 of " + i, x.found(i, 1), all[i][1]);
            due("ITEM 2 of " + i, x.found(i, 2), NONE);
            due("ITEM 3 of " + i, x.found(i, 3), NONE);
            due("COUNT of " + i, x.found(i, 4), all[i][2]);
            due("length of " + i, x.found(i, 5), all[i][3]);
        }
        int[] bad = {-1, 6, LOW, HIGH};
        for (int b : bad) {
            due("found(0, " + b + ")", x.found(0, b), NONE);
            due("found(" + b + ", 0)", x.found(b, 0), NONE);
        }
        due("found(5, 5)", x.found(5, 5), NONE);
        x.take(0, false);
        x.under(5, NONE);
        due("its COUNT then", x.found(1, 4), 3);
        RowFinder y = new RowFinder();
        rowOf(y, 0, 0, 15, 1, 0, 2, 15, 3, 14);
        y.find(1, 4);
        int last = y.tell(4) - 1;
        int[] items = {15, 0, 15, 14};
        for (int k = 0; k < 4; k++) {
            due("ITEM " + k + " of four", y.found(last, k), items[k]);
        }
    }

    private static void closed() {
        RowFinder x = threeRows();
        x.find(2, 2);
        int[] want = {1, 1, 0, 0, 1};
        for (int i = 0; i < want.length; i++) {
            due("closed(" + i + ")", x.closed(i), want[i]);
        }
        int[] bad = {-1, 5, LOW, HIGH};
        for (int b : bad) {
            due("closed(" + b + ")", x.closed(b), NONE);
        }
        x.under(5, NONE);
        due("4 is in one ROW now, with 3 ahead", x.closed(1), 0);
        x.take(2, false);
        due("3 has 5 ahead as often now", x.closed(0), 0);
        x.gap(9);
        due("but not within this GAP", x.closed(0), 1);
        due("5 is in two ROWS, and nothing is just UNDER it", x.closed(2), 1);

        RowFinder four = new RowFinder();
        rowOf(four, 0, 0, 1, 1, 2, 2, 3, 3, 4, 4, 5);
        four.find(1, 4);
        int last = four.tell(4) - 1;
        due("four ITEMS get no fifth", four.closed(last), 1);
        four.under(6, 5);
        due("what is just UNDER it is rarer", four.closed(last), 1);
        four.take(0, false);
        due("of COUNT 0 it is as often", four.closed(last), 0);
        four.under(6, NONE);
        due("without it, nothing is", four.closed(last), 1);

        RowFinder between = new RowFinder();
        rowOf(between, 0, 0, 1, 50, 2, 100, 3);
        between.find(1, 2);
        due("1, 3 has 2 between", between.closed(4), 0);
        RowFinder deep = new RowFinder();
        deep.under(1, 0);
        deep.under(2, 1);
        rowOf(deep, 0, 0, 2);
        rowOf(deep, 0, 0, 1);
        rowOf(deep, 0, 0, 0);
        deep.find(1, 1);
        due("0 is wider than 1", deep.closed(0), 1);
        deep.take(2, false);
        due("and now is not", deep.closed(0), 0);
        due("but 1 is wider than 2", deep.closed(1), 1);
        RowFinder zero = new RowFinder();
        rowOf(zero, 0, 0, 1, 1, 0);
        zero.find(1, 1);
        due("KIND 0 alone can make it longer", zero.closed(1), 0);
        RowFinder low = new RowFinder();
        low.under(0, 1);
        rowOf(low, 0, 0, 0, 1, 0, 2, 0, 3, 0);
        low.find(1, 4);
        due("KIND 0 can be just UNDER another", low.closed(low.tell(4) - 1), 0);
    }

    private static void best() {
        RowFinder x = new RowFinder();
        rowOf(x, 0, 0, 1, 5, 2);
        rowOf(x, 0, 0, 2, 5, 1);
        rowOf(x, 1, 0, 2);
        due("nothing was FOUND", x.best(), NONE);
        x.find(1, 2);
        due("1 parts them best, and is the first", x.best(), 0);
        x.take(1, false);
        x.find(1, 2);
        due("1 again", x.best(), 0);
        x.take(0, false);
        due("by the ROWS as they are: all alike", x.best(), 0);
        x.take(0, true);
        x.take(1, false);
        x.put(2, 3, 1);
        x.find(1, 2);
        due("only the order parts them", x.best(), 2);
        due("1, then 2", x.found(2, 1), 2);
        x.put(2, 9, 3);
        x.find(1, 1);
        due("what HEAP 1 alone has", x.best(), 2);
        x.take(2, false);
        due("with one HEAP alone all are alike", x.best(), 0);
        x.find(24, 1);
        due("nothing was FOUND then", x.best(), NONE);
        RowFinder y = new RowFinder();
        rowOf(y, 0, 0, 1);
        rowOf(y, 0, 0, 2);
        rowOf(y, 1, 0, 2);
        rowOf(y, 1, 0, 1, 1, 2);
        rowOf(y, 1, 0, 2);
        y.find(1, 2);
        due("|2 * 1 - 3 * 1| for 2, |1 * 3 - 1 * 2| for 1", y.best(), 1);
    }

    private static void expected() {
        RowFinder x = new RowFinder();
        x.under(1, 0);
        rowOf(x, 0, 0, 1, 5000, 2, 5001, 1);
        rowOf(x, 1, 0, 0, 1, 2);
        rowOf(x, 0, 0, 1, 1, 1);
        due("of 3", x.expected(1, 2), 666667);
        due("the other way", x.expected(2, 1), 666667);
        due("of 3 and of 2", x.expected(0, 2), 1166667);
        due("nothing of it", x.expected(3, 2), 0);
        x.gap(0);
        x.span(0);
        due("GAP and SPAN are not asked", x.expected(0, 2), 1166667);
        x.take(0, false);
        due("OUT", x.expected(0, 2), 500000);
        due("UNDER the other", x.expected(1, 0), NONE);
        due("over the other", x.expected(0, 1), NONE);
        due("alike", x.expected(2, 2), NONE);
        int[] bad = {-1, 16, LOW, HIGH};
        for (int b : bad) {
            due("expected(" + b + ", 0)", x.expected(b, 0), NONE);
            due("expected(0, " + b + ")", x.expected(0, b), NONE);
        }
        RowFinder y = new RowFinder();
        for (int r = 0; r < 24; r++) {
            y.row(0);
            for (int i = 0; i < 14; i++) {
                y.put(r, i, i % 2);
            }
        }
        due("7 of 14 are 3432: 1000000 less 291, in 24 ROWS", y.expected(0, 1), 24L * 999709);
        RowFinder z = new RowFinder();
        z.row(0);
        for (int i = 0; i < 30; i++) {
            z.put(0, i, i % 2);
        }
        due("15 of 30 are more than a million", z.expected(0, 1), 1000000);
    }

    private static void share() {
        RowFinder x = new RowFinder();
        rowOf(x, 0, 0, 1, 1, 2, 2, 3, 3, 4);
        rowOf(x, 0, 0, 1, 1, 2, 2, 3);
        rowOf(x, 0, 0, 1, 1, 2);
        rowOf(x, 0, 0, 2, 1, 1);
        due("3 of 4", x.share(1, 2, NONE, NONE), 750);
        due("2 of 3, rounded down", x.share(1, 2, 3, NONE), 666);
        due("1 of 2", x.share(1, 2, 3, 4), 500);
        due("of the ITEMS ahead of the last", x.share(3, 4, NONE, NONE), 500);
        due("none", x.share(1, 1, NONE, NONE), 0);
        due("none of none", x.share(9, 1, NONE, NONE), 0);
        due("of one ITEM", x.share(1, NONE, NONE, NONE), NONE);
        x.take(1, false);
        due("by those IN", x.share(1, 2, 3, NONE), 500);
        x.take(3, false);
        due("whole", x.share(1, 2, NONE, NONE), 1000);
    }

    private static RowFinder lackingRows() {
        RowFinder x = new RowFinder();
        rowOf(x, 0, 0, 1, 5, 2);
        rowOf(x, 0, 0, 1, 40, 1, 141, 2, 300, 1);
        rowOf(x, 1, 0, 2, 7, 1, 108, 2);
        rowOf(x, 1, 0, 1);
        rowOf(x, 1, 0, 3);
        return x;
    }

    private static void lacking() {
        RowFinder x = lackingRows();
        int[] want = {1, 2, 3, NONE, NONE};
        for (int i = 0; i < want.length; i++) {
            due("lacking " + i, x.lacking(1, 2, NONE, NONE, i), want[i]);
        }
        int[] bad = {-1, 24, 32, LOW, HIGH};
        for (int b : bad) {
            due("lacking " + b, x.lacking(1, 2, NONE, NONE, b), NONE);
        }
        due("of one ITEM", x.lacking(1, NONE, NONE, NONE, 0), NONE);
        x.take(1, false);
        due("OUT", x.lacking(1, 2, NONE, NONE, 0), 2);
        x.gap(101);
        due("by GAP", x.lacking(1, 2, NONE, NONE, 0), 3);
        due("the next", x.lacking(1, 2, NONE, NONE, 1), NONE);
        due("ROW 0", x.lacking(1, 3, NONE, NONE, 0), 0);
        RowFinder y = new RowFinder();
        for (int r = 0; r < 24; r++) {
            rowOf(y, r % 2, 0, 1);
        }
        due("the 24th", y.lacking(1, 2, NONE, NONE, 23), 23);
        due("a 25th", y.lacking(1, 2, NONE, NONE, 24), NONE);
    }

    private static void sure() {
        RowFinder x = lackingRows();
        int[] want = {NONE, 400, 107, 100, NONE};
        for (int r = 0; r < want.length; r++) {
            due("sure of " + r, x.sure(r, 1, 2, NONE, NONE), want[r]);
        }
        int[] bad = {-1, 5, 24, 32, LOW, HIGH};
        for (int b : bad) {
            due("sure of " + b, x.sure(b, 1, 2, NONE, NONE), NONE);
        }
        due("of one ITEM", x.sure(1, 1, NONE, NONE, NONE), NONE);
        due("the last end of a MATCH of two", x.sure(1, 1, 1, 2, NONE), 140);
        x.take(1, false);
        due("OUT", x.sure(1, 1, 2, NONE, NONE), NONE);
        x.take(1, true);
        x.gap(0);
        due("by GAP", x.sure(1, 1, 2, NONE, NONE), 300);
        RowFinder y = new RowFinder();
        rowOf(y, 0, 0, 1, 9000, 1);
        y.gap(999);
        due("9999", y.sure(0, 1, 2, NONE, NONE), 9999);
        y.gap(998);
        due("9998", y.sure(0, 1, 2, NONE, NONE), 9998);
        y.gap(1000);
        due("at most", y.sure(0, 1, 2, NONE, NONE), 9999);
        RowFinder z = new RowFinder();
        rowOf(z, 0, 0, 1, 10, 2, 60, 2, 90, 2);
        z.span(70);
        due("what ends beyond the SPAN is no MATCH", z.sure(0, 1, 2, 3, NONE), 160);
    }

    private static void look() {
        RowFinder x = new RowFinder();
        rowOf(x, 0, 3, 15, 4, 0);
        rowOf(x, 1);
        x.take(1, false);
        due("TICK", x.look(0, 0, 0), 3);
        due("KIND", x.look(0, 0, 1), 15);
        due("the next TICK", x.look(0, 1, 0), 4);
        due("the next KIND", x.look(0, 1, 1), 0);
        due("nothing more of it", x.look(0, 1, 2), NONE);
        due("HEAP", x.look(1, NONE, 0), 1);
        due("OUT", x.look(1, NONE, 1), 0);
        due("IN", x.look(0, NONE, 1), 1);
        due("how many", x.look(0, NONE, 2), 2);
        due("none", x.look(1, NONE, 2), 0);
        due("nothing more of a ROW", x.look(0, NONE, 3), NONE);
        int[] bad = {-2, 2, 30, LOW, HIGH};
        for (int b : bad) {
            due("HAPPENING " + b, x.look(0, b, 0), NONE);
            due("KIND of HAPPENING " + b, x.look(0, b, 1), NONE);
            due("ROW " + b, x.look(b, NONE, 0), NONE);
            due("what " + b, x.look(0, 0, b), NONE);
        }
        due("ROW NONE", x.look(NONE, NONE, 0), NONE);
        due("what NONE", x.look(0, 0, NONE), NONE);
        due("of a ROW, what NONE", x.look(0, NONE, NONE), NONE);
    }

    private static void isUnder() {
        RowFinder x = new RowFinder();
        x.under(15, 3);
        x.under(3, 7);
        due("just", x.isUnder(15, 3), 1);
        due("through another", x.isUnder(15, 7), 1);
        due("not over", x.isUnder(7, 15), 0);
        due("not itself", x.isUnder(15, 15), 0);
        due("not beside", x.isUnder(15, 4), 0);
        int[] bad = {-1, 16, LOW, HIGH};
        for (int b : bad) {
            due("isUnder(" + b + ", 0)", x.isUnder(b, 0), NONE);
            due("isUnder(0, " + b + ")", x.isUnder(0, b), NONE);
        }
    }

    private static void tell() {
        RowFinder x = threeRows();
        x.take(1, false);
        x.gap(77);
        x.span(88);
        x.find(1, 1);
        int[] want = {3, 2, 77, 88, 3, 6};
        for (int what = 0; what < want.length; what++) {
            due("tell(" + what + ")", x.tell(what), want[what]);
        }
        int[] bad = {-1, 6, LOW, HIGH};
        for (int b : bad) {
            due("tell(" + b + ")", x.tell(b), NONE);
        }
    }

    private static void run(int number) {
        promise = number;
        switch (number) {
            case 1: newObject(); break;
            case 2: under(); break;
            case 3: row(); break;
            case 4: put(); break;
            case 5: take(); break;
            case 6: gap(); break;
            case 7: span(); break;
            case 8: count(); break;
            case 9: matches(); break;
            case 10: match(); break;
            case 11: find(); break;
            case 12: found(); break;
            case 13: closed(); break;
            case 14: best(); break;
            case 15: expected(); break;
            case 16: share(); break;
            case 17: lacking(); break;
            case 18: sure(); break;
            case 19: look(); break;
            case 20: isUnder(); break;
            default: tell(); break;
        }
    }

    public static void main(String[] args) {
        for (int number = 1; number <= 21; number++) {
            run(number);
        }
        System.out.println(wrong == 0 ? "all answers are as due" : wrong + " answers are not as due");
        if (wrong != 0) {
            System.exit(1);
        }
    }
}

/**
 * The sentences of the promises, and of those 'Terms' that a promise rests on, that name a bound, or what is empty,
 * full or refused: each has a test of its own. The sentences of the other 'Terms' are tested in RowFinderTerms.
 */
public final class RowFinderBounds extends Sentences {
    private static final int KINDS = 16;
    private static final int ROWS = 24;
    private static final int MOST_FOUND = 2000;

    // Promise 1: a new object

    private static void noRows() {
        Finder x = new Finder();
        due(x.tell(0), 0);
        due(x.tell(1), 0);
        due(x.tell(5), 0);
        for (int r = -1; r <= ROWS; r++) {
            due(x.look(r, NONE, 0), NONE);
            due(x.look(r, NONE, 1), NONE);
            due(x.look(r, NONE, 2), NONE);
            due(x.take(r, true), false);
            due(x.take(r, false), false);
            due(x.put(r, 0, 0), NONE);
            due(x.matches(r, 0), NONE);
            due(x.match(r, 0, 0), NONE);
            due(x.sure(r, 0, 1), NONE);
            due(x.lacking(r, 0, 1), NONE);
        }
        for (int k = 0; k < KINDS; k++) {
            due(x.count(k), 0);
            due(x.share(k, 15 - k), 0);
            due(x.expected(k, 15 - k), 0);
        }
        due(x.row(1), 0);
    }

    private static void nothingUnder() {
        Finder x = new Finder();
        for (int k = 0; k < KINDS; k++) {
            for (int of = 0; of < KINDS; of++) {
                due(x.isUnder(k, of), 0);
            }
        }
    }

    private static void nothingFound() {
        Finder x = new Finder();
        due(x.tell(4), 0);
        due(x.best(), NONE);
        for (int i = -1; i <= 2; i++) {
            due(x.closed(i), NONE);
            for (int k = -1; k <= 6; k++) {
                due(x.found(i, k), NONE);
            }
        }
        x.rowOfKinds(0, 0, 1);
        due(x.tell(4), 0);
        due(x.found(0, 0), NONE);
        due(x.found(0, 4), NONE);
        due(x.found(0, 5), NONE);
        due(x.closed(0), NONE);
        due(x.best(), NONE);
        due(x.find(1, 1), 2);
    }

    // Promise 2: under

    private static void underNone() {
        for (int k = 0; k < KINDS; k++) {
            Finder x = new Finder();
            int of = 15 - k;
            due(x.under(k, NONE), true);
            due(x.under(k, of), true);
            due(x.under(k, of), true);
            due(x.isUnder(k, of), 1);
            due(x.under(k, NONE), true);
            due(x.isUnder(k, of), 0);
            due(x.under(k, NONE), true);
            due(x.under(of, k), true);
            due(x.isUnder(of, k), 1);
        }
        for (int bad : beyond(0, 15)) {
            due(new Finder().under(bad, NONE), false);
        }
    }

    private static void underAnother() {
        Finder x = new Finder();
        x.under(3, 2);
        x.under(2, 1);
        due(x.under(2, 9), true);
        due(x.isUnder(2, 1), 0);
        due(x.isUnder(3, 1), 0);
        due(x.isUnder(3, 9), 1);
        due(x.isUnder(2, 9), 1);
        due(x.isUnder(3, 2), 1);
        due(x.under(3, 1), true);
        due(x.isUnder(3, 2), 0);
        due(x.isUnder(3, 9), 0);
        due(x.isUnder(3, 1), 1);
    }

    private static void noSuchKindsToLay() {
        for (int bad : beyondButNone(0, 15)) {
            Finder x = new Finder();
            due(x.under(bad, 0), false);
            due(x.under(bad, 15), false);
            due(x.under(0, bad), false);
            due(x.under(15, bad), false);
            due(x.under(bad, bad), false);
            for (int k = 0; k < KINDS; k++) {
                due(x.isUnder(0, k), 0);
                due(x.isUnder(15, k), 0);
                due(x.isUnder(k, 0), 0);
                due(x.isUnder(k, 15), 0);
            }
        }
    }

    private static void oneWouldBeUnderItself() {
        for (int length = 1; length <= KINDS; length++) {
            Finder x = new Finder();
            for (int k = 1; k < length; k++) {
                due(x.under(15 - k, 15 - k + 1), true);
            }
            due(x.under(15, 15 - length + 1), false);
            for (int k = 0; k < length; k++) {
                due(x.isUnder(15, 15 - k), 0);
                due(x.isUnder(15 - k, 15), k == 0 ? 0 : 1);
            }
            if (length < KINDS) {
                due(x.under(15, 15 - length), true);
                due(x.isUnder(15 - length + 1, 15 - length), 1);
            }
        }
        Finder y = new Finder();
        y.under(3, 2);
        y.under(2, 1);
        due(y.under(1, 3), false);
        due(y.under(3, NONE), true);
        due(y.under(1, 3), true);
        due(y.isUnder(2, 3), 1);
    }

    // Promise 3: row

    private static void aRowsNumber() {
        Finder x = new Finder();
        for (int r = 0; r < ROWS; r++) {
            due(x.row(r / 12), r);
            due(x.tell(0), r + 1);
            due(x.tell(1), r + 1);
        }
        for (int r = 0; r < ROWS; r++) {
            due(x.look(r, NONE, 0), r / 12);
        }
    }

    private static void noSuchHeap() {
        for (int heap : beyond(0, 1)) {
            Finder x = new Finder();
            due(x.row(heap), NONE);
            due(x.tell(0), 0);
            due(x.row(1), 0);
            due(x.row(heap), NONE);
            due(x.look(0, NONE, 0), 1);
            due(x.tell(0), 1);
        }
    }

    private static void twentyFourAreThere() {
        Finder x = new Finder();
        for (int r = 0; r < ROWS; r++) {
            due(x.rowOfKinds(1, r % KINDS), r);
        }
        x.take(3, false);
        for (int more = 0; more < 40; more++) {
            due(x.row(more % 2), NONE);
        }
        due(x.tell(0), 24);
        due(x.tell(1), 23);
        due(x.tell(5), 24);
        for (int r = 0; r < ROWS; r++) {
            due(x.look(r, NONE, 0), 1);
            due(x.look(r, NONE, 1), r == 3 ? 0 : 1);
            due(x.look(r, NONE, 2), 1);
            due(x.look(r, 0, 1), r % KINDS);
        }
        due(x.put(23, 0, 0), 1);
    }

    // Promise 4: put

    private static void aHappeningsPlace() {
        Finder x = new Finder();
        x.row(0);
        x.row(0);
        for (int i = 0; i < 30; i++) {
            due(x.put(i % 2, i, i % KINDS), i / 2);
            due(x.look(i % 2, NONE, 2), i / 2 + 1);
            due(x.tell(5), i + 1);
        }
        for (int i = 0; i < 30; i++) {
            due(x.look(i % 2, i / 2, 0), i);
            due(x.look(i % 2, i / 2, 1), i % KINDS);
        }
    }

    private static void dueOneHappening(Finder x) {
        due(x.tell(5), 1);
        due(x.look(0, NONE, 2), 1);
        due(x.look(0, 0, 0), 40);
        due(x.look(0, 0, 1), 4);
        due(x.look(0, 1, 0), NONE);
        due(x.look(1, NONE, 2), 0);
    }

    private static void noSuchRowTickKind() {
        Finder x = new Finder();
        x.rowOf(0, 40, 4);
        x.row(1);
        for (int r : beyond(0, 1)) {
            due(x.put(r, 50, 5), NONE);
        }
        dueOneHappening(x);
        for (int tick : beyond(0, 9999)) {
            due(x.put(0, tick, 5), NONE);
            due(x.put(1, tick, 5), NONE);
        }
        dueOneHappening(x);
        for (int kind : beyond(0, 15)) {
            due(x.put(0, 50, kind), NONE);
            due(x.put(1, 50, kind), NONE);
        }
        dueOneHappening(x);
        due(x.put(0, 40, 0), 1);
        due(x.put(0, 41, 15), 2);
        due(x.put(1, 0, 15), 0);
    }

    private static void aheadOfTheLastOnes() {
        int[] ticks = {1, 2, 100, 5000, 9998, 9999};
        for (int tick : ticks) {
            Finder x = new Finder();
            x.row(0);
            x.row(0);
            due(x.put(0, 0, 0), 0);
            due(x.put(0, tick, 1), 1);
            due(x.put(0, tick - 1, 2), NONE);
            due(x.put(0, 0, 2), NONE);
            due(x.look(0, NONE, 2), 2);
            due(x.put(0, tick, 3), 2);
            due(x.look(0, 2, 0), tick);
            due(x.put(1, tick - 1, 3), 0);
        }
    }

    private static void thirtyAreThere() {
        Finder x = new Finder();
        x.row(0);
        x.row(0);
        x.put(1, 7, 7);
        for (int i = 0; i < 30; i++) {
            due(x.put(0, 10, 3), i);
        }
        for (int more = 0; more < 40; more++) {
            due(x.put(0, 10 + more, more % KINDS), NONE);
        }
        due(x.look(0, NONE, 2), 30);
        due(x.tell(5), 31);
        due(x.matches(0, 3), 30);
        due(x.matches(0, 3, 3), 435);
        due(x.matches(0, 3, 3, 3), 4060);
        due(x.matches(0, 3, 3, 3, 3), 27405);
        for (int i = 0; i < 30; i++) {
            due(x.look(0, i, 0), 10);
            due(x.look(0, i, 1), 3);
        }
        due(x.look(1, 0, 0), 7);
        due(x.look(1, NONE, 2), 1);
        due(x.take(0, false), true);
        due(x.put(0, 10, 3), NONE);
        due(x.put(1, 7, 7), 1);
    }

    // Promise 5: take

    private static void inOrOut() {
        Finder x = new Finder();
        for (int r = 0; r < ROWS; r++) {
            x.rowOfKinds(r % 2, 1);
        }
        for (int r = 0; r < ROWS; r++) {
            due(x.take(r, false), true);
            due(x.look(r, NONE, 1), 0);
            due(x.tell(1), 23);
            due(x.look((r + 1) % ROWS, NONE, 1), 1);
            due(x.take(r, true), true);
            due(x.look(r, NONE, 1), 1);
            due(x.tell(1), 24);
        }
    }

    private static void noSuchRowToTake() {
        Finder x = new Finder();
        x.row(0);
        x.row(0);
        for (int r : beyond(0, 1)) {
            due(x.take(r, true), false);
            due(x.take(r, false), false);
            due(x.tell(1), 2);
        }
        due(x.take(1, false), true);
        for (int r : beyond(0, 1)) {
            due(x.take(r, true), false);
            due(x.take(r, false), false);
            due(x.tell(1), 1);
        }
        due(x.row(0), 2);
        due(x.look(2, NONE, 1), 1);
        due(x.look(1, NONE, 1), 0);
    }

    private static void itIsSo() {
        Finder x = new Finder();
        x.rowOfKinds(0, 1);
        due(x.take(0, true), false);
        due(x.look(0, NONE, 1), 1);
        due(x.count(1), 1);
        due(x.take(0, false), true);
        due(x.take(0, false), false);
        due(x.take(0, false), false);
        due(x.look(0, NONE, 1), 0);
        due(x.count(1), 0);
        due(x.take(0, true), true);
        due(x.take(0, true), false);
        due(x.look(0, NONE, 1), 1);
        due(x.count(1), 1);
    }

    // Promises 6 and 7: gap and span

    private static void noSuchGap() {
        int[] before = {0, 100, 9999};
        for (int g : before) {
            for (int bad : beyond(0, 9999)) {
                Finder x = new Finder();
                x.rowOf(0, 0, 1, g, 2);
                x.span(9999);
                due(x.gap(g), true);
                due(x.gap(bad), false);
                due(x.tell(2), g);
                due(x.tell(3), 9999);
                due(x.count(1, 2), 1);
                due(x.sure(0, 2, 3), Math.min(9999, 2 * g));
            }
        }
    }

    private static void theSameGapAgain() {
        Finder x = new Finder();
        due(x.gap(100), true);
        due(x.gap(0), true);
        due(x.gap(0), true);
        due(x.gap(9999), true);
        due(x.gap(9999), true);
        due(x.tell(2), 9999);
    }

    private static void noSuchSpan() {
        int[] before = {0, 1000, 9999};
        for (int s : before) {
            for (int bad : beyond(0, 9999)) {
                Finder x = new Finder();
                x.rowOf(0, 0, 1, s, 2);
                x.gap(9999);
                due(x.span(s), true);
                due(x.span(bad), false);
                due(x.tell(3), s);
                due(x.tell(2), 9999);
                due(x.count(1, 2), 1);
            }
        }
    }

    private static void theSameSpanAgain() {
        Finder x = new Finder();
        due(x.span(1000), true);
        due(x.span(0), true);
        due(x.span(0), true);
        due(x.span(9999), true);
        due(x.span(9999), true);
        due(x.tell(3), 9999);
    }

    // Promises 8 to 10: count, matches, match

    private static void countOfNone() {
        Finder x = new Finder();
        x.rowOfKinds(0, 5, 5, 5, 5);
        int[][] none = {{NONE, NONE, NONE, NONE}, {NONE, 5, NONE, NONE}, {NONE, 5, 5, 5}, {5, NONE, 5, NONE},
            {5, NONE, NONE, 5}, {5, NONE, 5, 5}, {5, 5, NONE, 5}, {NONE, NONE, NONE, 5}};
        for (int[] p : none) {
            due(x.count(p), NONE);
        }
        for (int bad : beyond(0, 15)) {
            due(x.count(bad, 5, 5, 5), NONE);
            due(x.count(5, bad, 5, 5), NONE);
            due(x.count(5, 5, bad, 5), NONE);
            if (bad != NONE) {
                due(x.count(5, 5, 5, bad), NONE);
            }
        }
        due(x.count(5, 5, 5, 5), 1);
        due(x.count(5, 5, 5, NONE), 1);
        due(x.count(6, 5, 5, 5), 0);
    }

    private static void matchesInOrOut() {
        Finder x = new Finder();
        x.rowOfKinds(0, 1, 2, 1, 2);
        x.rowOfKinds(1);
        for (int turn = 0; turn < 2; turn++) {
            due(x.matches(0, 1, 2), 3);
            due(x.matches(0, 2, 1), 1);
            due(x.matches(0, 2, 2, 2), 0);
            due(x.matches(0, 3), 0);
            due(x.matches(1, 1), 0);
            due(x.matches(1, 1, 2, 1, 2), 0);
            x.take(0, false);
            x.take(1, false);
        }
    }

    private static void matchesOfNone() {
        Finder x = new Finder();
        x.rowOfKinds(0, 5, 5, 5, 5);
        for (int r : beyond(0, 0)) {
            due(x.matches(r, 5), NONE);
            due(x.matches(r, 6), NONE);
            due(x.matches(r, 5, 5, 5, 5), NONE);
        }
        int[][] none = {{NONE, NONE, NONE, NONE}, {NONE, 5, 5, 5}, {5, NONE, 5, 5}, {5, 5, NONE, 5}, {16, 5, 5, 5},
            {5, 16, 5, 5}, {5, 5, 16, 5}, {5, 5, 5, 16}, {-2, 5, 5, 5}, {5, -2, 5, 5}, {5, 5, -2, 5}, {5, 5, 5, -2}};
        for (int[] p : none) {
            due(x.matches(0, p), NONE);
            due(x.matches(1, p), NONE);
            for (int i = -1; i <= 4; i++) {
                due(x.match(0, i, p), NONE);
                due(x.match(1, i, p), NONE);
            }
        }
        due(x.matches(0, 5, 5, 5, 5), 1);
    }

    private static void mostMatches() {
        Finder x = new Finder();
        x.row(0);
        x.under(15, 7);
        x.gap(0);
        x.span(0);
        for (int i = 0; i < 30; i++) {
            x.put(0, 9999, i % 2 == 0 ? 7 : 15);
        }
        due(x.matches(0, 7, 7, 7, 7), 27405);
        due(x.matches(0, 7, 7, 7), 4060);
        due(x.matches(0, 7, 7), 435);
        due(x.matches(0, 7), 30);
        due(x.matches(0, 15, 15, 15, 15), 1365);
        due(x.matches(0, 15), 15);
        due(x.match(0, 3, 15, 15, 15, 15), 7);
        due(x.match(0, 3, 7, 7, 7, 7), 3);
    }

    private static void placeI() {
        Finder x = new Finder();
        x.rowOfKinds(0, 9, 1, 2, 3, 4);
        for (int i = 0; i <= 3; i++) {
            due(x.match(0, i, 1), i < 1 ? i + 1 : NONE);
            due(x.match(0, i, 1, 2), i < 2 ? i + 1 : NONE);
            due(x.match(0, i, 1, 2, 3), i < 3 ? i + 1 : NONE);
            due(x.match(0, i, 1, 2, 3, 4), i + 1);
        }
        for (int bad : beyond(0, 3)) {
            due(x.match(0, bad, 1), NONE);
            due(x.match(0, bad, 1, 2, 3), NONE);
            due(x.match(0, bad, 1, 2, 3, 4), NONE);
        }
    }

    private static void noMatch() {
        Finder x = new Finder();
        x.rowOfKinds(0, 1, 2, 3, 4);
        x.rowOfKinds(0);
        for (int i = 0; i <= 3; i++) {
            due(x.match(0, i, 5), NONE);
            due(x.match(0, i, 2, 1), NONE);
            due(x.match(0, i, 1, 2, 4, 3), NONE);
            due(x.match(0, i, 1, 2, 3, 3), NONE);
            due(x.match(1, i, 1), NONE);
            due(x.match(1, i, 1, 2, 3, 4), NONE);
        }
        for (int r : beyond(0, 1)) {
            due(x.match(r, 0, 1), NONE);
            due(x.match(r, 3, 1, 2, 3, 4), NONE);
        }
    }

    private static void firstMatchInOrOut() {
        Finder x = new Finder();
        x.rowOfKinds(0, 9, 1, 2);
        due(x.match(0, 1, 1, 2), 2);
        due(x.take(0, false), true);
        due(x.match(0, 0, 1, 2), 1);
        due(x.match(0, 1, 1, 2), 2);
        due(x.count(1, 2), 0);
    }

    // Promise 11: find

    /** KIND k is in 9 + k of 24 ROWS. */
    private static Finder nineAndMore() {
        Finder x = new Finder();
        for (int r = 0; r < ROWS; r++) {
            x.row(r % 2);
            for (int k = Math.max(0, r - 8); k < KINDS; k++) {
                x.put(r, 0, k);
            }
        }
        return x;
    }

    private static void findByM() {
        Finder x = nineAndMore();
        for (int m = 1; m <= 24; m++) {
            int want = Math.min(KINDS, 25 - m);
            due(x.find(m, 1), want);
            due(x.tell(4), want);
            due(x.found(0, 0), KINDS - want);
            due(x.found(0, 4), Math.max(9, m));
            due(x.found(want - 1, 4), 24);
            due(x.found(want, 4), NONE);
        }
        x.take(0, false);
        due(x.find(24, 1), 0);
        due(x.find(23, 1), 1);
    }

    private static void findByN() {
        int[] want = {2, 2 + 4, 2 + 4 + 8, 2 + 4 + 8 + 16};
        for (int n = 1; n <= 4; n++) {
            Finder x = new Finder();
            x.rowOfKinds(0, 0, 15, 0, 15, 0, 15, 0, 15);
            due(x.find(1, n), want[n - 1]);
            due(x.found(want[n - 1] - 1, 5), n);
            for (int k = 0; k < 4; k++) {
                due(x.found(want[n - 1] - 1, k), k < n ? 15 : NONE);
            }
            due(x.found(want[n - 1], 5), NONE);
        }
    }

    private static void noSuchMN() {
        int[][] good = {{1, 1}, {24, 4}, {1, 4}, {24, 1}};
        for (int m : beyond(1, 24)) {
            Finder x = new Finder();
            x.rowOfKinds(0, 1, 2);
            due(x.find(1, 2), 3);
            for (int n = 0; n <= 5; n++) {
                due(x.find(m, n), NONE);
                due(x.tell(4), 3);
                due(x.found(2, 0), 1);
                due(x.found(2, 1), 2);
                due(x.found(2, 4), 1);
            }
        }
        for (int n : beyond(1, 4)) {
            Finder x = new Finder();
            x.rowOfKinds(0, 1, 2);
            due(x.find(1, 2), 3);
            int[] some = {0, 1, 2, 23, 24, 25};
            for (int m : some) {
                due(x.find(m, n), NONE);
                due(x.tell(4), 3);
                due(x.found(0, 0), 1);
                due(x.found(1, 0), 2);
                due(x.found(2, 5), 2);
            }
        }
        for (int[] mn : good) {
            Finder x = new Finder();
            due(x.find(mn[0], mn[1]), 0);
        }
    }

    private static void kindsOfRowsIn() {
        Finder x = new Finder();
        x.under(2, 1);
        x.under(1, 0);
        x.under(9, 8);
        x.rowOfKinds(0, 2);
        x.rowOfKinds(1, 9);
        due(x.find(1, 1), 5);
        int[] both = {0, 1, 2, 8, 9};
        for (int i = 0; i < both.length; i++) {
            due(x.found(i, 0), both[i]);
        }
        x.take(0, false);
        due(x.find(1, 1), 2);
        due(x.found(0, 0), 8);
        due(x.found(1, 0), 9);
        x.take(1, false);
        due(x.find(1, 4), 0);
        x.take(0, true);
        x.under(2, NONE);
        due(x.find(1, 4), 1);
        due(x.found(0, 0), 2);
    }

    private static void countIsMOrMore() {
        Finder x = new Finder();
        x.rowOfKinds(0, 1, 2, 3);
        x.rowOfKinds(0, 1, 2);
        x.rowOfKinds(1, 1);
        due(x.find(1, 4), 7);
        due(x.find(2, 4), 3);
        due(x.found(2, 0), 1);
        due(x.found(2, 1), 2);
        due(x.found(2, 4), 2);
        due(x.find(3, 4), 1);
        due(x.found(0, 0), 1);
        due(x.find(4, 4), 0);
        due(x.tell(4), 0);
    }

    /** Many MATCHES of three KINDS, apart and UNDER one another, in three ROWS. */
    private static Finder threeKinds() {
        Finder x = new Finder();
        x.under(15, 7);
        x.rowOf(0, 0, 0, 40, 15, 80, 7, 120, 0, 200, 15);
        x.rowOf(1, 0, 15, 100, 15, 100, 0, 201, 7, 250, 15);
        x.rowOf(0, 5, 7, 6, 0);
        x.span(160);
        return x;
    }

    private static int patternOf(int number, int length, int k) {
        int[] some = {0, 7, 15};
        int left = number;
        for (int j = length - 1; j > k; j--) {
            left /= 3;
        }
        return k < length ? some[left % 3] : NONE;
    }

    private static void inOrderAllThatThereAre() {
        for (int m = 1; m <= 3; m++) {
            int i = 0;
            int many = 1;
            for (int length = 1; length <= 4; length++) {
                Finder x = threeKinds();
                Finder y = threeKinds();
                x.find(m, length);
                many *= 3;
                for (int number = 0; number < many; number++) {
                    int[] p = {patternOf(number, length, 0), patternOf(number, length, 1),
                        patternOf(number, length, 2), patternOf(number, length, 3)};
                    int count = y.count(p);
                    if (count >= m) {
                        for (int k = 0; k < 4; k++) {
                            due(x.found(i, k), p[k]);
                        }
                        due(x.found(i, 4), count);
                        i++;
                    }
                }
                due(x.tell(4), i);
            }
        }
    }

    /** 1999 PATTERNS in ROWS 0 to 5; ROWS 6 and 7, which are OUT, have one more each. */
    private static Finder nearTheMost() {
        Finder x = new Finder();
        x.rowOfKinds(0, 0, 1, 2, 3, 4, 5, 6, 7, 8, 9, 10, 11, 12, 13, 14);
        x.rowOfKinds(0, 15, 0, 1, 2, 3, 4, 5);
        x.rowOfKinds(0, 14, 0, 1, 2, 3);
        x.rowOfKinds(0, 13, 12);
        x.rowOfKinds(0, 13, 11);
        x.rowOfKinds(0, 13, 10);
        x.rowOfKinds(0, 13, 9);
        x.rowOfKinds(0, 13, 8);
        x.take(6, false);
        x.take(7, false);
        return x;
    }

    private static void dueLastFound(Finder x, int many, int second) {
        int[] items = {15, second, 4, 5, 1, 4};
        for (int k = 0; k <= 5; k++) {
            due(x.found(many - 1, k), items[k]);
            due(x.found(many, k), NONE);
        }
        due(x.closed(many), NONE);
    }

    private static void atMost2000() {
        Finder x = nearTheMost();
        due(x.find(1, 4), MOST_FOUND - 1);
        due(x.tell(4), MOST_FOUND - 1);
        dueLastFound(x, MOST_FOUND - 1, 3);
        x.take(6, true);
        due(x.find(1, 4), MOST_FOUND);
        due(x.tell(4), MOST_FOUND);
        dueLastFound(x, MOST_FOUND, 3);
        x.take(7, true);
        due(x.find(1, 4), MOST_FOUND);
        due(x.tell(4), MOST_FOUND);
        dueLastFound(x, MOST_FOUND, 2);
        due(x.closed(1999), 1);
        due(x.found(0, 0), 0);
        due(x.find(1, 1), KINDS);
        due(x.found(KINDS, 0), NONE);
        due(x.found(1999, 0), NONE);
    }

    private static void thoseFirstInOrder() {
        Finder x = new Finder();
        x.row(0);
        for (int i = 0; i < 30; i++) {
            x.put(0, i, i % KINDS);
        }
        // 16 of one ITEM; of two all but 14, 14 and 15, 14 and 15, 15; the others are of three.
        int pairs = 256 - 3;
        due(x.find(1, 2), 16 + pairs);
        due(x.find(1, 3), MOST_FOUND);
        due(x.found(15, 5), 1);
        due(x.found(15, 0), 15);
        due(x.found(16, 5), 2);
        due(x.found(16, 0), 0);
        due(x.found(16, 1), 0);
        due(x.found(16 + pairs - 1, 5), 2);
        due(x.found(16 + pairs - 1, 0), 15);
        due(x.found(16 + pairs - 1, 1), 13);
        due(x.found(16 + pairs, 5), 3);
        due(x.found(16 + pairs, 0), 0);
        due(x.found(16 + pairs, 1), 0);
        due(x.found(16 + pairs, 2), 1);
        int last = 1999;
        int[] told = {x.found(last, 0), x.found(last, 1), x.found(last, 2)};
        due(x.find(1, 4), MOST_FOUND);
        due(x.found(last, 5), 3);
        for (int k = 0; k < 3; k++) {
            due(x.found(last, k), told[k]);
        }
        due(x.found(last, 3), NONE);
        due(x.found(2000, 5), NONE);
    }

    private static void whatWasFoundIsReplaced() {
        Finder x = new Finder();
        x.rowOfKinds(0, 1, 2, 3);
        due(x.find(1, 3), 7);
        due(x.find(1, 1), 3);
        due(x.tell(4), 3);
        due(x.found(3, 0), NONE);
        due(x.closed(3), NONE);
        due(x.find(2, 1), 0);
        due(x.tell(4), 0);
        due(x.found(0, 0), NONE);
        due(x.best(), NONE);
        due(x.find(1, 2), 6);
        due(x.found(3, 1), 2);
    }

    private static void nothingToFind() {
        Finder x = new Finder();
        due(x.find(1, 4), 0);
        due(x.tell(4), 0);
        x.row(0);
        x.row(1);
        due(x.find(1, 4), 0);
        x.put(0, 0, 3);
        x.take(0, false);
        due(x.find(1, 4), 0);
        due(x.tell(4), 0);
        due(x.found(0, 4), NONE);
        due(x.closed(0), NONE);
        due(x.best(), NONE);
    }

    // Promise 12: found

    private static void itemsThatItHasNot() {
        Finder x = new Finder();
        x.rowOfKinds(0, 15, 0, 15, 0);
        x.find(1, 4);
        int[] numbers = {1, 4, 8, 10};
        for (int n = 1; n <= 4; n++) {
            int i = numbers[n - 1];
            for (int k = 0; k < 4; k++) {
                due(x.found(i, k), k >= n ? NONE : k % 2 == 0 ? 15 : 0);
            }
            due(x.found(i, 4), 1);
            due(x.found(i, 5), n);
        }
    }

    private static void noneSuchFound() {
        Finder x = new Finder();
        x.rowOfKinds(0, 1, 2);
        due(x.find(1, 2), 3);
        for (int k : beyond(0, 5)) {
            due(x.found(0, k), NONE);
            due(x.found(2, k), NONE);
        }
        for (int i : beyond(0, 2)) {
            for (int k = 0; k <= 5; k++) {
                due(x.found(i, k), NONE);
            }
        }
        due(x.found(0, 0), 1);
        due(x.found(2, 5), 2);
    }

    private static void itsCountThen() {
        Finder x = new Finder();
        x.under(2, 1);
        for (int r = 0; r < ROWS; r++) {
            x.rowOf(r % 2, 0, 2, 100, 3);
        }
        due(x.find(24, 2), 5);
        x.take(0, false);
        due(x.found(0, 4), 24);
        x.under(2, NONE);
        due(x.count(1), 0);
        due(x.found(0, 4), 24);
        x.gap(99);
        due(x.count(2, 3), 0);
        due(x.found(4, 4), 24);
        x.span(0);
        due(x.found(3, 4), 24);
        x.put(1, 100, 1);
        due(x.found(0, 4), 24);
        due(x.found(0, 0), 1);
        due(x.find(1, 2), 4);
        due(x.found(0, 4), 1);
        due(x.found(1, 4), 23);
    }

    // Promise 13: closed

    private static void noneSuchClosed() {
        Finder x = new Finder();
        x.rowOfKinds(0, 1, 2);
        due(x.closed(0), NONE);
        due(x.find(1, 2), 3);
        due(x.closed(0), 0);
        due(x.closed(2), 1);
        for (int i : beyond(0, 2)) {
            due(x.closed(i), NONE);
        }
        due(x.find(2, 2), 0);
        due(x.closed(0), NONE);
    }

    /** ITEMS 1, 2 .. and one HAPPENING of another KIND behind so many of them. */
    private static Finder withOneMore(int items, int behind, int kind) {
        Finder x = new Finder();
        x.row(0);
        for (int i = 0; i <= items; i++) {
            x.put(0, i, i < behind ? 3 + i : i == behind ? kind : 2 + i);
        }
        return x;
    }

    private static int[] firstItems(int items) {
        int[] p = new int[items];
        for (int i = 0; i < items; i++) {
            p[i] = 3 + i;
        }
        return p;
    }

    private static void oneItemMore() {
        int[] kinds = {0, 1, 2, 7, 15};
        for (int items = 1; items <= 3; items++) {
            for (int behind = 0; behind <= items; behind++) {
                for (int kind : kinds) {
                    Finder x = withOneMore(items, behind, kind);
                    x.find(1, items);
                    int i = x.numberOf(firstItems(items));
                    due(x.closed(i), 0);
                    // A second ROW that has the PATTERN alone: now nothing longer says as often.
                    x.rowOfKinds(1, firstItems(items));
                    due(x.closed(i), 1);
                    x.take(1, false);
                    due(x.closed(i), 0);
                    x.take(1, true);
                    x.take(0, false);
                    due(x.closed(i), 1);
                }
            }
        }
    }

    private static void ifItHasFewerThanFour() {
        for (int behind = 0; behind <= 4; behind++) {
            Finder x = withOneMore(4, behind, 0);
            x.find(1, 4);
            due(x.closed(x.numberOf(firstItems(4))), 1);
        }
        Finder y = new Finder();
        y.rowOfKinds(0, 5, 5, 5, 5, 5, 5);
        due(y.find(1, 4), 4);
        due(y.closed(0), 0);
        due(y.closed(1), 0);
        due(y.closed(2), 0);
        due(y.closed(3), 1);
    }

    private static void aKindJustUnder() {
        int[][] pairs = {{0, 15}, {15, 0}, {7, 8}};
        for (int[] pair : pairs) {
            for (int at = 0; at < 4; at++) {
                Finder x = new Finder();
                x.under(pair[0], pair[1]);
                int[] p = {3, 4, 5, 6};
                p[at] = pair[1];
                int[] narrow = p.clone();
                narrow[at] = pair[0];
                x.rowOfKinds(0, narrow);
                x.find(1, 4);
                int i = x.tell(4) - 1;
                if (pair[0] > pair[1]) {
                    // The narrower one has the higher number, so it was FOUND last.
                    due(x.closed(i), 1);
                    i--;
                }
                while (i > 0 && x.found(i, at) != pair[1]) {
                    i--;
                }
                due(x.found(i, 5), 4);
                due(x.closed(i), 0);
                x.rowOfKinds(1, p);
                due(x.closed(i), 1);
                x.take(1, false);
                due(x.closed(i), 0);
                x.under(pair[0], NONE);
                due(x.closed(i), 1);
            }
        }
    }

    private static void toldJustUnder() {
        Finder x = new Finder();
        x.under(1, 0);
        x.under(2, 1);
        x.under(3, 1);
        x.rowOfKinds(0, 2);
        x.rowOfKinds(0, 3);
        due(x.find(1, 1), 4);
        due(x.closed(0), 0);
        due(x.closed(1), 1);
        due(x.closed(2), 1);
        x.rowOfKinds(0, 0);
        due(x.closed(0), 1);
        x.take(2, false);
        x.take(1, false);
        due(x.closed(0), 0);
        due(x.closed(1), 0);
        due(x.closed(2), 1);
        due(x.closed(3), 0);
        x.under(2, 0);
        due(x.closed(0), 0);
        due(x.closed(1), 0);
        x.rowOfKinds(0, 1);
        due(x.closed(0), 1);
        due(x.closed(1), 1);
    }

    private static void asTheyAreWhenItIsAsked() {
        Finder x = new Finder();
        x.rowOf(0, 0, 1, 100, 2);
        x.rowOf(0, 0, 1, 100, 2);
        due(x.find(1, 1), 2);
        due(x.closed(0), 0);
        x.gap(99);
        due(x.closed(0), 1);
        x.gap(100);
        due(x.closed(0), 0);
        x.span(99);
        due(x.closed(0), 1);
        x.span(100);
        due(x.closed(0), 0);
        due(x.row(1), 2);
        due(x.closed(0), 0);
        x.put(2, 0, 1);
        due(x.closed(0), 1);
        due(x.closed(1), 0);
        x.put(2, 50, 9);
        due(x.closed(0), 1);
        x.put(2, 50, 2);
        due(x.closed(0), 0);
        x.take(2, false);
        x.under(5, 1);
        due(x.closed(0), 0);
        due(x.found(0, 4), 2);
    }

    private static void closedOfCountZero() {
        Finder x = new Finder();
        x.rowOfKinds(0, 1, 2, 3, 4);
        due(x.find(1, 4), 15);
        x.take(0, false);
        for (int i = 0; i < 14; i++) {
            due(x.closed(i), 0);
        }
        due(x.closed(14), 1);
        x.under(9, 4);
        due(x.closed(14), 0);
        x.under(9, 8);
        due(x.closed(14), 1);
        x.take(0, true);
        x.under(9, 1);
        due(x.closed(14), 1);
    }

    // Promise 14: best

    private static void theFirstOfTheBest() {
        Finder x = new Finder();
        x.rowOfKinds(0, 4, 5);
        x.rowOfKinds(1, 6, 7);
        due(x.find(1, 2), 6);
        due(x.best(), 0);
        x.rowOfKinds(1, 4);
        due(x.best(), 1);
        x.rowOfKinds(0, 7);
        due(x.best(), 1);
        x.put(2, 0, 5);
        due(x.best(), 2);
    }

    private static void allAlike() {
        Finder x = new Finder();
        x.rowOfKinds(0, 4, 5);
        due(x.find(1, 2), 3);
        due(x.best(), 0);
        x.rowOfKinds(1, 4, 5);
        due(x.best(), 0);
        x.take(0, false);
        due(x.best(), 0);
        x.take(1, false);
        due(x.best(), 0);
        Finder y = new Finder();
        y.rowOfKinds(1, 4, 5);
        due(y.find(1, 2), 3);
        due(y.best(), 0);
    }

    private static void theGreatestOnBothSides() {
        Finder x = new Finder();
        for (int r = 0; r < 12; r++) {
            x.rowOfKinds(0, 1, r % 2 == 0 ? 2 : 3);
        }
        for (int r = 0; r < 12; r++) {
            x.rowOfKinds(1, 1, 4);
        }
        due(x.find(1, 1), 4);
        due(x.best(), 3);
        for (int r = 12; r < ROWS; r++) {
            x.put(r, 1, 3);
        }
        due(x.best(), 3);
        for (int r = 0; r < 11; r++) {
            x.put(r, 1, 4);
        }
        due(x.find(1, 1), 4);
        due(x.best(), 1);
        x.take(11, false);
        due(x.best(), 1);
    }

    private static void howManyThereAre() {
        // Of HEAP 0 one of two has 1 and none 2; of HEAP 1 none of three has 1 and two have 2: 1 * 3 < 2 * 2.
        Finder x = new Finder();
        x.rowOfKinds(0, 1);
        x.rowOfKinds(0, 3);
        x.rowOfKinds(1, 2);
        x.rowOfKinds(1, 2);
        x.rowOfKinds(1);
        due(x.find(1, 1), 3);
        due(x.best(), 1);
        // With five in HEAP 1 it is 1 * 5 > 2 * 2.
        x.row(1);
        x.row(1);
        due(x.best(), 0);
        // An OUT one does not count among those that there are.
        x.take(5, false);
        x.take(6, false);
        due(x.best(), 1);
        // With four it is 1 * 4 = 2 * 2: the first.
        x.take(5, true);
        due(x.best(), 0);
    }

    private static void bestAsThingsAreNow() {
        Finder x = new Finder();
        x.rowOf(0, 0, 1, 10, 2);
        x.rowOf(1, 0, 1, 20, 2);
        due(x.find(1, 2), 3);
        due(x.best(), 0);
        x.gap(15);
        due(x.best(), 2);
        x.gap(20);
        due(x.best(), 0);
        x.span(19);
        due(x.best(), 2);
        x.span(20);
        x.put(1, 20, 3);
        due(x.best(), 0);
        x.under(3, 2);
        due(x.best(), 0);
        x.rowOfKinds(0, 3);
        due(x.best(), 0);
        x.under(3, NONE);
        x.put(2, 0, 1);
        due(x.best(), 1);
    }

    private static void theBestIsTheLast() {
        Finder x = nearTheMost();
        x.take(6, true);
        due(x.find(1, 4), MOST_FOUND);
        for (int r = 0; r < 7; r++) {
            x.take(r, false);
        }
        x.rowOfKinds(1, 15, 3, 4, 5);
        x.rowOf(0, 0, 3, 1, 4, 2, 5, 500, 15, 501, 3, 502, 4, 1000, 15, 1001, 3, 1002, 5, 1500, 15, 1501, 4, 1502, 5);
        due(x.best(), MOST_FOUND - 1);
        x.take(8, false);
        x.row(1);
        due(x.best(), 3);
    }

    private static void nothingIsBest() {
        Finder x = new Finder();
        due(x.best(), NONE);
        x.rowOfKinds(0, 1);
        x.rowOfKinds(1, 2);
        due(x.best(), NONE);
        due(x.find(1, 1), 2);
        due(x.best(), 0);
        due(x.find(0, 1), NONE);
        due(x.best(), 0);
        due(x.find(24, 1), 0);
        due(x.best(), NONE);
    }

    // Promise 15: expected

    private static void neitherUnderTheOther() {
        Finder x = new Finder();
        x.under(2, 1);
        x.under(3, 2);
        x.under(4, 1);
        x.rowOfKinds(0, 3, 4, 9);
        int[][] none = {{1, 2}, {2, 1}, {1, 3}, {3, 1}, {2, 3}, {1, 4}, {4, 1}, {0, 0}, {15, 15}, {3, 3}};
        for (int[] two : none) {
            due(x.expected(two[0], two[1]), NONE);
        }
        due(x.expected(2, 4), 500000);
        due(x.expected(4, 2), 500000);
        due(x.expected(3, 4), 500000);
        due(x.expected(1, 9), 666667);
        due(x.expected(9, 1), 666667);
        due(x.under(4, NONE), true);
        due(x.expected(1, 4), 500000);
    }

    private static void noSuchTwo() {
        Finder x = new Finder();
        x.rowOfKinds(0, 0, 15);
        for (int bad : beyond(0, 15)) {
            due(x.expected(bad, 0), NONE);
            due(x.expected(bad, 15), NONE);
            due(x.expected(0, bad), NONE);
            due(x.expected(15, bad), NONE);
            due(x.expected(bad, bad), NONE);
        }
        due(x.expected(0, 15), 500000);
        due(x.expected(15, 0), 500000);
    }

    private static void notZero() {
        Finder x = new Finder();
        x.rowOfKinds(0, 1, 1, 1);
        x.rowOfKinds(0, 2);
        x.rowOfKinds(0);
        due(x.expected(1, 2), 0);
        due(x.expected(2, 1), 0);
        due(x.expected(8, 9), 0);
        due(x.put(1, 1, 1), 1);
        due(x.expected(1, 2), 500000);
    }

    private static void waysToChoose() {
        long[][] triangle = new long[31][31];
        for (int n = 0; n <= 30; n++) {
            triangle[n][0] = 1;
            for (int k = 1; k <= n; k++) {
                triangle[n][k] = triangle[n - 1][k - 1] + (k < n ? triangle[n - 1][k] : 0);
            }
        }
        due(triangle[30][15], 155117520);
        for (int x = 1; x < 30; x++) {
            for (int y = 1; x + y <= 30; y++) {
                Finder f = new Finder();
                f.row(0);
                for (int i = 0; i < x + y; i++) {
                    f.put(0, 0, i < x ? 1 : 2);
                }
                long want = 1000000 - 1000000 / triangle[x + y][x];
                due(f.expected(1, 2), want);
                due(f.expected(2, 1), want);
            }
        }
    }

    private static Finder onesAndTwos(int ones, int twos) {
        Finder x = new Finder();
        x.row(0);
        for (int i = 0; i < ones + twos; i++) {
            x.put(0, i, i < ones ? 1 : 2);
        }
        return x;
    }

    private static void roundedDownByRow() {
        due(onesAndTwos(1, 1).expected(1, 2), 500000);
        due(onesAndTwos(1, 2).expected(1, 2), 666667);
        due(onesAndTwos(1, 29).expected(1, 2), 966667);
        due(onesAndTwos(29, 1).expected(1, 2), 966667);
        due(onesAndTwos(11, 11).expected(1, 2), 999999);
        due(onesAndTwos(11, 12).expected(1, 2), 1000000);
        due(onesAndTwos(15, 15).expected(1, 2), 1000000);
        Finder x = new Finder();
        x.rowOfKinds(0, 1, 2, 2);
        x.rowOfKinds(1, 1, 2, 2);
        x.rowOfKinds(0, 1, 2, 2);
        due(x.expected(1, 2), 2000001);
        x.take(1, false);
        due(x.expected(1, 2), 1333334);
    }

    private static void gapAndSpanAreNotAsked() {
        Finder x = new Finder();
        x.rowOf(0, 0, 1, 9999, 2, 9999, 1);
        due(x.expected(1, 2), 666667);
        x.gap(0);
        x.span(0);
        due(x.expected(1, 2), 666667);
        due(x.expected(2, 1), 666667);
        x.gap(9999);
        x.span(9999);
        due(x.expected(1, 2), 666667);
    }

    private static void summedUp() {
        Finder x = new Finder();
        for (int r = 0; r < ROWS; r++) {
            x.row(r % 2);
            for (int i = 0; i < 18; i++) {
                x.put(r, i, i % 2);
            }
        }
        // 9 of 18: 48620 ways.
        due(x.expected(0, 1), 24L * (1000000 - 20));
        due(x.expected(1, 0), 24L * (1000000 - 20));
        due(x.take(23, false), true);
        due(x.expected(0, 1), 23L * (1000000 - 20));
        due(x.take(0, false), true);
        due(x.expected(0, 1), 22L * (1000000 - 20));
    }

    // Promise 16: share

    private static void inThousandths() {
        for (int with = 0; with <= ROWS; with++) {
            Finder x = new Finder();
            for (int r = 0; r < ROWS; r++) {
                x.rowOfKinds(r % 2, 1, r < with ? 2 : 3);
            }
            due(x.share(1, 2), with * 1000 / 24);
            due(x.share(1, 3), (24 - with) * 1000 / 24);
            x.take(23, false);
            due(x.share(1, 2), Math.min(with, 23) * 1000 / 23);
        }
        Finder y = new Finder();
        y.rowOfKinds(0, 1, 2, 3, 4);
        y.rowOfKinds(0, 1, 2, 3);
        y.rowOfKinds(0, 1, 2, 3);
        y.rowOfKinds(0, 1, 2);
        y.rowOfKinds(0, 1);
        y.rowOfKinds(0, 4);
        due(y.share(1, 2), 800);
        due(y.share(1, 2, 3), 750);
        due(y.share(1, 2, 3, 4), 333);
        due(y.share(2, 3, 4), 333);
        due(y.share(3, 4), 333);
    }

    private static void zeroIfThatIsZero() {
        Finder x = new Finder();
        due(x.share(1, 2), 0);
        x.row(0);
        due(x.share(1, 2), 0);
        due(x.share(1, 2, 3, 4), 0);
        x.put(0, 0, 1);
        due(x.share(1, 2), 0);
        due(x.share(1, 2, 3), 0);
        x.put(0, 0, 2);
        due(x.share(1, 2), 1000);
        due(x.share(1, 2, 3), 0);
        x.take(0, false);
        due(x.share(1, 2), 0);
    }

    private static void shareOfNone() {
        Finder x = new Finder();
        x.rowOfKinds(0, 5, 5, 5, 5);
        due(x.share(5), NONE);
        due(x.share(0), NONE);
        due(x.share(15), NONE);
        due(x.share(5, 5), 1000);
        due(x.share(5, 5, 5, 5), 1000);
        for (int bad : beyond(0, 15)) {
            due(x.share(bad, 5, 5, 5), NONE);
            due(x.share(5, bad, 5, 5), NONE);
            due(x.share(5, 5, bad, 5), NONE);
            if (bad != NONE) {
                due(x.share(5, 5, 5, bad), NONE);
                due(x.share(5, bad), NONE);
            }
        }
    }

    // Promise 17: lacking

    private static void theIthLacking() {
        Finder x = new Finder();
        for (int r = 0; r < ROWS; r++) {
            x.rowOfKinds(r % 2, r % 3 == 0 ? 9 : 1);
        }
        int i = 0;
        for (int r = 0; r < ROWS; r++) {
            if (r % 3 != 0) {
                due(x.lacking(i, 1, 2), r);
                i++;
            }
        }
        due(i, 16);
        for (int bad : beyond(0, 15)) {
            due(x.lacking(bad, 1, 2), NONE);
        }
        due(x.put(1, 0, 2), 1);
        due(x.lacking(0, 1, 2), 2);
        due(x.lacking(14, 1, 2), 23);
        due(x.lacking(15, 1, 2), NONE);
        due(x.take(23, false), true);
        due(x.lacking(14, 1, 2), NONE);
        due(x.lacking(13, 1, 2), 22);
        due(x.put(0, 0, 1), 1);
        due(x.lacking(0, 1, 2), 0);
    }

    private static void allAreLacking() {
        Finder x = new Finder();
        for (int r = 0; r < ROWS; r++) {
            x.rowOfKinds(0, 1, 2, 3);
        }
        for (int i = 0; i < ROWS; i++) {
            due(x.lacking(i, 1, 2, 3, 4), i);
            due(x.lacking(i, 1, 2, 4), i);
            due(x.lacking(i, 1, 4), i);
            due(x.lacking(i, 4, 1), NONE);
            due(x.lacking(i, 1, 2, 3), NONE);
        }
        for (int bad : beyond(0, 23)) {
            due(x.lacking(bad, 1, 2, 3, 4), NONE);
        }
    }

    private static void haveItButNotWhole() {
        Finder x = new Finder();
        x.rowOf(0, 0, 1, 100, 2);
        x.rowOf(0, 0, 1, 101, 2);
        x.rowOf(0, 0, 2, 0, 1);
        x.rowOf(0, 0, 2);
        x.rowOf(0);
        due(x.lacking(0, 1, 2), 1);
        due(x.lacking(1, 1, 2), 2);
        due(x.lacking(2, 1, 2), NONE);
        x.gap(99);
        due(x.lacking(0, 1, 2), 0);
        x.gap(101);
        due(x.lacking(0, 1, 2), 2);
        x.span(100);
        due(x.lacking(0, 1, 2), 1);
        x.take(1, false);
        due(x.lacking(0, 1, 2), 2);
        due(x.lacking(1, 1, 2), NONE);
    }

    private static void lackingOfNone() {
        Finder x = new Finder();
        x.rowOfKinds(0, 5, 5, 5);
        for (int i = -1; i <= 1; i++) {
            due(x.lacking(i, 5), NONE);
            due(x.lacking(i, 6), NONE);
            due(x.lacking(i, NONE, NONE, NONE, NONE), NONE);
            due(x.lacking(i, NONE, 6, NONE, NONE), NONE);
            due(x.lacking(i, 5, NONE, 6, NONE), NONE);
            due(x.lacking(i, 5, 5, NONE, 6), NONE);
            due(x.lacking(i, 5, 5, 5, 16), NONE);
            due(x.lacking(i, 5, 5, 5, -2), NONE);
            due(x.lacking(i, 5, 16), NONE);
            due(x.lacking(i, 16, 5), NONE);
        }
        due(x.lacking(0, 5, 6), 0);
        due(x.lacking(0, 5, 5, 5, 5), 0);
    }

    // Promise 18: sure

    private static void at9999AtMost() {
        int[] gaps = {0, 1, 100, 9998, 9999};
        int[] ticks = {0, 1, 5000, 9899, 9900, 9998, 9999};
        for (int g : gaps) {
            for (int t : ticks) {
                Finder x = new Finder();
                x.rowOf(0, t, 1);
                x.gap(g);
                due(x.sure(0, 1, 2), Math.min(9999, t + g));
            }
        }
    }

    private static void theGreatestTickOfAnEnd() {
        Finder x = new Finder();
        x.rowOf(0, 0, 1, 50, 2, 100, 2, 101, 2, 150, 2, 400, 3);
        due(x.sure(0, 1, 2, 3), 200);
        due(x.sure(0, 2, 3), 250);
        due(x.sure(0, 3, 9), 500);
        x.gap(101);
        due(x.sure(0, 1, 2, 3), 202);
        x.gap(9999);
        x.span(101);
        due(x.sure(0, 1, 2, 9), 9999);
        x.gap(149);
        due(x.sure(0, 1, 2, 9), 250);
        x.span(50);
        due(x.sure(0, 1, 2, 9), 199);
        due(x.sure(0, 1, 2, 2, 9), NONE);
        x.span(100);
        due(x.sure(0, 1, 2, 2, 9), 249);
        x.gap(50);
        due(x.sure(0, 1, 2, 2, 9), 150);
    }

    private static void itIsNotLacking() {
        Finder x = new Finder();
        x.rowOfKinds(0, 1, 2);
        x.rowOfKinds(0, 2, 1);
        x.rowOfKinds(0, 3);
        x.rowOfKinds(0);
        due(x.sure(0, 1, 2), NONE);
        due(x.sure(1, 1, 2), 101);
        due(x.sure(2, 1, 2), NONE);
        due(x.sure(3, 1, 2), NONE);
        x.take(1, false);
        due(x.sure(1, 1, 2), NONE);
        x.take(1, true);
        due(x.sure(1, 1, 2), 101);
        due(x.put(1, 1, 2), 2);
        due(x.sure(1, 1, 2), NONE);
    }

    private static void sureOfNone() {
        Finder x = new Finder();
        x.rowOfKinds(0, 5, 5, 5);
        for (int r : beyond(0, 0)) {
            due(x.sure(r, 5, 6), NONE);
            due(x.sure(r, 5, 5, 5, 5), NONE);
        }
        int[][] none = {{5}, {6}, {NONE, NONE, NONE, NONE}, {NONE, 5, 6, NONE}, {5, NONE, 6, NONE}, {5, 5, NONE, 6},
            {5, 16}, {16, 5}, {5, 5, 5, 16}, {5, -2}, {-2, 6}};
        for (int[] p : none) {
            due(x.sure(0, p), NONE);
        }
        due(x.sure(0, 5, 6), 102);
        due(x.sure(0, 5, 5, 5, 5), 102);
    }

    // Promises 19 to 21: look, isUnder, tell

    private static void ofAHappening() {
        Finder x = new Finder();
        x.row(1);
        due(x.look(0, 0, 0), NONE);
        due(x.look(0, 0, 1), NONE);
        for (int i = 0; i < 30; i++) {
            due(x.put(0, 9970 + i, 15 - i / 2), i);
            due(x.look(0, i, 0), 9970 + i);
            due(x.look(0, i, 1), 15 - i / 2);
            due(x.look(0, i, 2), NONE);
            due(x.look(0, i + 1, 0), NONE);
            due(x.look(0, i + 1, 1), NONE);
        }
        for (int bad : beyondButNone(0, 29)) {
            due(x.look(0, bad, 0), NONE);
            due(x.look(0, bad, 1), NONE);
            due(x.look(0, bad, 2), NONE);
        }
        for (int bad : beyond(0, 1)) {
            due(x.look(0, 0, bad), NONE);
            due(x.look(0, 29, bad), NONE);
        }
        due(x.look(1, 0, 0), NONE);
    }

    private static void ofARow() {
        Finder x = new Finder();
        x.rowOfKinds(1, 4, 5, 6);
        x.rowOfKinds(0);
        x.take(1, false);
        due(x.look(0, NONE, 0), 1);
        due(x.look(0, NONE, 1), 1);
        due(x.look(0, NONE, 2), 3);
        due(x.look(1, NONE, 0), 0);
        due(x.look(1, NONE, 1), 0);
        due(x.look(1, NONE, 2), 0);
        for (int bad : beyond(0, 2)) {
            due(x.look(0, NONE, bad), NONE);
            due(x.look(1, NONE, bad), NONE);
        }
        for (int r : beyond(0, 1)) {
            for (int what = 0; what <= 2; what++) {
                due(x.look(r, NONE, what), NONE);
                due(x.look(r, 0, what), NONE);
            }
        }
    }

    private static void whetherItLiesUnder() {
        Finder x = new Finder();
        x.under(15, 0);
        x.under(0, 7);
        due(x.isUnder(15, 0), 1);
        due(x.isUnder(15, 7), 1);
        due(x.isUnder(0, 7), 1);
        due(x.isUnder(7, 15), 0);
        due(x.isUnder(0, 15), 0);
        due(x.isUnder(15, 15), 0);
        due(x.isUnder(0, 0), 0);
        for (int bad : beyond(0, 15)) {
            due(x.isUnder(bad, 0), NONE);
            due(x.isUnder(bad, 15), NONE);
            due(x.isUnder(0, bad), NONE);
            due(x.isUnder(15, bad), NONE);
            due(x.isUnder(bad, bad), NONE);
        }
    }

    private static void whatIsTold() {
        Finder x = new Finder();
        int[] first = {0, 0, 100, 1000, 0, 0};
        for (int what = 0; what <= 5; what++) {
            due(x.tell(what), first[what]);
        }
        for (int r = 0; r < ROWS; r++) {
            x.rowOfKinds(r % 2, 1, 2, 3);
        }
        x.take(0, false);
        x.take(23, false);
        x.gap(0);
        x.span(9999);
        x.find(1, 2);
        int[] then = {24, 22, 0, 9999, 3, 72};
        for (int what = 0; what <= 5; what++) {
            due(x.tell(what), then[what]);
        }
        for (int bad : beyond(0, 5)) {
            due(x.tell(bad), NONE);
        }
    }

    private static void promises1To7() {
        sentence("No ROWS", RowFinderBounds::noRows);
        sentence("nothing UNDER another", RowFinderBounds::nothingUnder);
        sentence("nothing was FOUND.", RowFinderBounds::nothingFound);
        sentence("(NONE: under none): true", RowFinderBounds::underNone);
        sentence("KIND k lies just UNDER another one", RowFinderBounds::underAnother);
        sentence("false: no such ones", RowFinderBounds::noSuchKindsToLay);
        sentence("one would be UNDER itself.", RowFinderBounds::oneWouldBeUnderItself);
        sentence("A ROW: its number", RowFinderBounds::aRowsNumber);
        sentence("NONE: no such HEAP", RowFinderBounds::noSuchHeap);
        sentence("24 are there.", RowFinderBounds::twentyFourAreThere);
        sentence("A HAPPENING of ROW r: its PLACE", RowFinderBounds::aHappeningsPlace);
        sentence("its PLACE; NONE: no such ones", RowFinderBounds::noSuchRowTickKind);
        sentence("the TICK is ahead of the last one's", RowFinderBounds::aheadOfTheLastOnes);
        sentence("30 are there.", RowFinderBounds::thirtyAreThere);
        sentence("ROW r is IN (is), or OUT: true", RowFinderBounds::inOrOut);
        sentence("false: no such one", RowFinderBounds::noSuchRowToTake);
        sentence("no such one, it is so.", RowFinderBounds::itIsSo);
        sentence("GAP: true; false: no such number.", RowFinderBounds::noSuchGap);
        sentence("GAP: true", RowFinderBounds::theSameGapAgain);
        sentence("SPAN: true; false: no such number.", RowFinderBounds::noSuchSpan);
        sentence("SPAN: true", RowFinderBounds::theSameSpanAgain);
    }

    private static void promises8To11() {
        sentence("COUNT of a PATTERN; NONE: it is none.", RowFinderBounds::countOfNone);
        sentence("How many MATCHES of a PATTERN ROW r has (IN or OUT)", RowFinderBounds::matchesInOrOut);
        sentence("ROW r has (IN or OUT); NONE: no such ones.", RowFinderBounds::matchesOfNone);
        sentence("How many MATCHES of a PATTERN", RowFinderBounds::mostMatches);
        sentence("PLACE i (0 to 3) of THE FIRST MATCH", RowFinderBounds::placeI);
        sentence("NONE: none, no such ones.", RowFinderBounds::noMatch);
        sentence("THE FIRST MATCH in ROW r (IN or OUT)", RowFinderBounds::firstMatchInOrOut);
        sentence("TO FIND by m (1 to 24)", RowFinderBounds::findByM);
        sentence("n (1 to 4): all PATTERNS of at most n ITEMS", RowFinderBounds::findByN);
        sentence("NONE: no such m, n (what was FOUND stays).", RowFinderBounds::noSuchMN);
        sentence("KINDS of some HAPPENING of a ROW that is IN, or KINDS that such a one lies UNDER",
            RowFinderBounds::kindsOfRowsIn);
        sentence("whose COUNT is m or more", RowFinderBounds::countIsMOrMore);
        sentence("in order: those with fewer ITEMS first, of like ones ITEM by ITEM, the lower KIND first.",
            RowFinderBounds::inOrderAllThatThereAre);
        sentence("At most 2000", RowFinderBounds::atMost2000);
        sentence("(those first in order; what is more is not told).", RowFinderBounds::thoseFirstInOrder);
        sentence("TO FIND: how many", RowFinderBounds::whatWasFoundIsReplaced);
        sentence("TO FIND", RowFinderBounds::nothingToFind);
    }

    private static void promises12To15() {
        sentence("ITEM k of the i-th that was FOUND (NONE: it has not so many)", RowFinderBounds::itemsThatItHasNot);
        sentence("5: how many ITEMS. NONE: there is none such.", RowFinderBounds::noneSuchFound);
        sentence("k 4: its COUNT then", RowFinderBounds::itsCountThen);
        sentence("1, 0; NONE: there is none such.", RowFinderBounds::noneSuchClosed);
        sentence("by putting one ITEM more in ahead, between or behind", RowFinderBounds::oneItemMore);
        sentence("(if it has fewer than four)", RowFinderBounds::ifItHasFewerThanFour);
        sentence("by making of one ITEM a KIND told just UNDER it.", RowFinderBounds::aKindJustUnder);
        sentence("a KIND told just UNDER it", RowFinderBounds::toldJustUnder);
        sentence("(By ROWS, KINDS, GAP and SPAN as they are when it is asked.)",
            RowFinderBounds::asTheyAreWhenItIsAsked);
        sentence("(its COUNT as it is now)", RowFinderBounds::closedOfCountZero);
        sentence("the first one for which |x Y - y X| is greatest", RowFinderBounds::theFirstOfTheBest);
        sentence("the first one for which", RowFinderBounds::allAlike);
        sentence("|x Y - y X| is greatest", RowFinderBounds::theGreatestOnBothSides);
        sentence("X, Y how many there are.", RowFinderBounds::howManyThereAre);
        sentence("x, y how many ROWS IN of HEAPS 0 and 1 have it", RowFinderBounds::bestAsThingsAreNow);
        sentence("THE BEST of what was FOUND: its number", RowFinderBounds::theBestIsTheLast);
        sentence("NONE: nothing was.", RowFinderBounds::nothingIsBest);
        sentence("EXPECTED of two KINDS, neither UNDER the other, unlike", RowFinderBounds::neitherUnderTheOther);
        sentence("NONE: no such two.", RowFinderBounds::noSuchTwo);
        sentence("x and y not 0", RowFinderBounds::notZero);
        sentence("how many ways there are to choose x of x + y", RowFinderBounds::waysToChoose);
        sentence("1000000 less 1000000 / that number, rounded down", RowFinderBounds::roundedDownByRow);
        sentence("(GAP and SPAN are not asked)", RowFinderBounds::gapAndSpanAreNotAsked);
        sentence("summed up over ROWS that are IN.", RowFinderBounds::summedUp);
    }

    private static void promises16To21() {
        sentence("its COUNT in thousandths of that without its last ITEM, rounded down", RowFinderBounds::inThousandths);
        sentence("(0 if that is 0)", RowFinderBounds::zeroIfThatIsZero);
        sentence("SHARE of a PATTERN; NONE: it is none, or of one ITEM.", RowFinderBounds::shareOfNone);
        sentence("The i-th ROW LACKING a PATTERN; NONE: there is none such", RowFinderBounds::theIthLacking);
        sentence("The i-th ROW LACKING a PATTERN", RowFinderBounds::allAreLacking);
        sentence("ROWS that are IN and have it without its last ITEM, but not whole.",
            RowFinderBounds::haveItButNotWhole);
        sentence("NONE: there is none such, it is none, or of one ITEM.", RowFinderBounds::lackingOfNone);
        sentence("and GAP (9999 at most).", RowFinderBounds::at9999AtMost);
        sentence("the greatest TICK at which some MATCH of it without its last ITEM ends",
            RowFinderBounds::theGreatestTickOfAnEnd);
        sentence("NONE: it is not LACKING it", RowFinderBounds::itIsNotLacking);
        sentence("it is not LACKING it, no such ones.", RowFinderBounds::sureOfNone);
        sentence("Of HAPPENING i of ROW r, what 0 its TICK, 1 its KIND", RowFinderBounds::ofAHappening);
        sentence("i NONE: 0 the HEAP, 1 whether it is IN, 2 how many HAPPENINGS. NONE for others.",
            RowFinderBounds::ofARow);
        sentence("Whether KIND k lies UNDER KIND of: 1, 0; NONE: no such ones.", RowFinderBounds::whetherItLiesUnder);
        sentence("0 ROWS, 1 those IN, 2 GAP, 3 SPAN, 4 what was FOUND, 5 HAPPENINGS in all. NONE for others.",
            RowFinderBounds::whatIsTold);
    }

    public static void main(String[] args) {
        promises1To7();
        promises8To11();
        promises12To15();
        promises16To21();
        end();
    }
}

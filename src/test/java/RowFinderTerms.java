/**
 * The sentences of 'What it is' and 'Terms' that name a bound, or what is empty or full: each has a test of its own.
 * What FOUND, CLOSED, BEST, EXPECTED, SHARE, LACKING and SURE mean is tested with the promises (RowFinderBounds), what
 * a refused call leaves as it was in RowFinderRefusals.
 */
public final class RowFinderTerms extends Sentences {
    private static final int KINDS = 16;
    private static final int ROWS = 24;

    private static void atMost512Calls() {
        Finder x = new Finder();
        for (int r = 0; r < ROWS; r++) {
            due(x.row(r % 2), r);
        }
        int put = 0;
        while (x.calls() < 511) {
            due(x.put(put % ROWS, put, put % KINDS), put / ROWS);
            put++;
        }
        due(x.tell(5), put);

        Finder y = new Finder();
        while (y.calls() < 508) {
            due(y.put(0, 0, 0), NONE);
        }
        due(y.row(1), 0);
        due(y.put(0, 9999, 15), 0);
        due(y.find(1, 4), 1);
        due(y.closed(0), 1);

        Finder z = new Finder();
        z.rowOfKinds(0, 1, 2, 3, 4);
        while (z.calls() < 511) {
            due(z.count(1, 2, 3, 4), 1);
        }
        due(z.put(0, 3, 5), 4);
    }

    private static void none() {
        due(RowFinder.NONE, -1);
        due(new Finder().tell(6), RowFinder.NONE);
    }

    private static void kinds() {
        Finder x = new Finder();
        x.row(0);
        for (int k = 0; k < KINDS; k++) {
            due(x.put(0, k, k), k);
        }
        for (int k = 0; k < KINDS; k++) {
            due(x.look(0, k, 1), k);
            due(x.count(k), 1);
            due(x.matches(0, k), 1);
            due(x.match(0, 0, k), k);
            due(x.isUnder(k, 15 - k), 0);
            due(x.expected(k, 15 - k), 500000);
        }
        for (int k : beyond(0, 15)) {
            due(x.put(0, 99, k), NONE);
            due(x.count(k), NONE);
            due(x.matches(0, k), NONE);
            due(x.match(0, 0, k), NONE);
            due(x.isUnder(k, 0), NONE);
            due(x.isUnder(15, k), NONE);
            due(x.expected(k, 0), NONE);
            due(x.expected(15, k), NONE);
            due(x.under(k, 0), false);
        }
        due(x.find(1, 1), KINDS);
    }

    private static void kindsOfLaterItems() {
        for (int k = 0; k < KINDS; k++) {
            Finder x = new Finder();
            x.rowOfKinds(0, 7, 7, 7, k);
            due(x.count(7, k), 1);
            due(x.count(7, 7, k), 1);
            due(x.count(7, 7, 7, k), 1);
        }
        Finder x = new Finder();
        x.rowOfKinds(0, 0, 0, 0, 0);
        x.rowOfKinds(0, 15, 15, 15, 15);
        for (int k : beyondButNone(0, 15)) {
            due(x.under(0, k), false);
            due(x.count(15, k), NONE);
            due(x.count(15, 15, k), NONE);
            due(x.count(15, 15, 15, k), NONE);
            due(x.matches(1, 15, k), NONE);
            due(x.match(1, 0, 15, k), NONE);
            due(x.share(15, k), NONE);
            due(x.share(15, 15, k), NONE);
            due(x.share(k, 15), NONE);
            due(x.lacking(0, 15, k), NONE);
            due(x.lacking(0, 15, 15, 15, k), NONE);
            due(x.sure(1, 15, k), NONE);
            due(x.sure(1, 15, 15, 15, k), NONE);
        }
        due(x.lacking(0, 15, 1), 1);
        due(x.sure(1, 15, 1), 103);
    }

    private static void eachUnderEach() {
        for (int k = 0; k < KINDS; k++) {
            for (int of = 0; of < KINDS; of++) {
                Finder x = new Finder();
                due(x.under(k, of), k != of);
                for (int j = 0; j < KINDS; j++) {
                    for (int i = 0; i < KINDS; i++) {
                        due(x.isUnder(j, i), k != of && j == k && i == of ? 1 : 0);
                    }
                }
            }
        }
    }

    private static void dueChain(Finder x, int length) {
        for (int k = 0; k < KINDS; k++) {
            for (int of = 0; of < KINDS; of++) {
                due(x.isUnder(k, of), of < k && k < length ? 1 : 0);
            }
        }
    }

    private static void underWhatIsUnder() {
        for (int length = 2; length <= KINDS; length++) {
            Finder down = new Finder();
            for (int k = 1; k < length; k++) {
                due(down.under(k, k - 1), true);
            }
            dueChain(down, length);
            Finder up = new Finder();
            for (int k = length - 1; k > 0; k--) {
                due(up.under(k, k - 1), true);
            }
            dueChain(up, length);
        }
    }

    private static void underInOneBranchAlone() {
        Finder x = new Finder();
        x.under(3, 1);
        x.under(4, 2);
        x.under(1, 15);
        x.under(2, 15);
        due(x.isUnder(3, 15), 1);
        due(x.isUnder(4, 15), 1);
        due(x.isUnder(3, 2), 0);
        due(x.isUnder(3, 4), 0);
        due(x.isUnder(1, 2), 0);
        due(x.under(1, NONE), true);
        due(x.isUnder(3, 15), 0);
        due(x.isUnder(3, 1), 1);
        due(x.isUnder(4, 15), 1);
    }

    private static void noneUnderItself() {
        for (int length = 1; length <= KINDS; length++) {
            Finder x = new Finder();
            for (int k = 1; k < length; k++) {
                x.under(k, k - 1);
            }
            for (int k = 0; k < length; k++) {
                due(x.isUnder(k, k), 0);
                for (int of = k; of < length; of++) {
                    due(x.under(k, of), false);
                }
            }
            dueChain(x, length);
        }
    }

    private static void isOfItsOwnAndWhatIsOver() {
        Finder x = new Finder();
        for (int k = 1; k < KINDS; k++) {
            x.under(k, k - 1);
        }
        for (int k = 0; k < KINDS; k++) {
            x.rowOfKinds(0, k);
        }
        for (int k = 0; k < KINDS; k++) {
            due(x.count(k), KINDS - k);
            for (int r = 0; r < KINDS; r++) {
                due(x.matches(r, k), r >= k ? 1 : 0);
            }
        }
        Finder alone = new Finder();
        for (int k = 0; k < KINDS; k++) {
            alone.rowOfKinds(0, k);
        }
        for (int k = 0; k < KINDS; k++) {
            for (int r = 0; r < KINDS; r++) {
                due(alone.matches(r, k), r == k ? 1 : 0);
            }
        }
    }

    private static void rows() {
        Finder x = new Finder();
        for (int r = 0; r < ROWS; r++) {
            due(x.row(0), r);
            due(x.put(r, r, 5), 0);
        }
        int[] ends = {0, 23};
        for (int r : ends) {
            due(x.matches(r, 5), 1);
            due(x.match(r, 0, 5), 0);
            due(x.sure(r, 5, 6), r + 100);
            due(x.look(r, 0, 0), r);
            due(x.take(r, false), true);
            due(x.take(r, true), true);
            due(x.put(r, 50, 4), 1);
        }
        for (int r : beyond(0, 23)) {
            due(x.put(r, 9999, 5), NONE);
            due(x.take(r, false), false);
            due(x.take(r, true), false);
            due(x.matches(r, 5), NONE);
            due(x.match(r, 0, 5), NONE);
            due(x.sure(r, 5, 6), NONE);
            due(x.look(r, NONE, 2), NONE);
            due(x.look(r, 0, 0), NONE);
        }
        due(x.tell(5), 26);
        due(x.tell(1), 24);
    }

    private static void rowsThatAreNotThereYet() {
        for (int there = 0; there < ROWS; there++) {
            Finder x = new Finder();
            for (int r = 0; r < there; r++) {
                x.rowOfKinds(r % 2, 5);
            }
            for (int r = there; r <= ROWS; r++) {
                due(x.put(r, 0, 5), NONE);
                due(x.take(r, false), false);
                due(x.take(r, true), false);
                due(x.matches(r, 5), NONE);
                due(x.match(r, 0, 5), NONE);
                due(x.sure(r, 5, 6), NONE);
                due(x.look(r, NONE, 0), NONE);
                due(x.look(r, NONE, 2), NONE);
            }
            due(x.row(1), there);
            due(x.look(there, NONE, 0), 1);
            due(x.look(there, NONE, 1), 1);
            due(x.look(there, NONE, 2), 0);
        }
    }

    private static void heaps() {
        Finder x = new Finder();
        for (int heap : beyond(0, 1)) {
            due(x.row(heap), NONE);
        }
        due(x.tell(0), 0);
        due(x.row(0), 0);
        due(x.row(1), 1);
        due(x.row(1), 2);
        due(x.row(0), 3);
        int[] heaps = {0, 1, 1, 0};
        for (int r = 0; r < heaps.length; r++) {
            due(x.look(r, NONE, 0), heaps[r]);
        }
    }

    private static void inAtFirst() {
        Finder x = new Finder();
        for (int r = 0; r < ROWS; r++) {
            x.rowOfKinds(r % 2, 5);
            due(x.look(r, NONE, 1), 1);
            due(x.count(5), r + 1);
        }
        for (int r = 0; r < ROWS; r++) {
            due(x.take(r, false), true);
            due(x.look(r, NONE, 1), 0);
            due(x.count(5), ROWS - 1 - r);
            due(x.tell(1), ROWS - 1 - r);
            due(x.tell(0), ROWS);
        }
        for (int r = ROWS - 1; r >= 0; r--) {
            due(x.take(r, true), true);
            due(x.look(r, NONE, 1), 1);
            due(x.tell(1), ROWS - r);
        }
    }

    private static void atMost30Happenings() {
        Finder x = new Finder();
        x.row(0);
        x.row(1);
        x.take(1, false);
        for (int i = 0; i < 30; i++) {
            due(x.put(0, 3 * i, i % KINDS), i);
            due(x.put(1, 9999, 15 - i % KINDS), i);
        }
        due(x.put(0, 87, 1), NONE);
        due(x.put(0, 88, 1), NONE);
        due(x.put(0, 9999, 1), NONE);
        due(x.put(1, 9999, 1), NONE);
        for (int i = 0; i < 30; i++) {
            due(x.look(0, i, 0), 3 * i);
            due(x.look(0, i, 1), i % KINDS);
            due(x.look(1, i, 1), 15 - i % KINDS);
        }
        due(x.look(0, 30, 0), NONE);
        due(x.look(0, 30, 1), NONE);
        due(x.look(0, NONE, 2), 30);
        due(x.look(1, NONE, 2), 30);
        due(x.tell(5), 60);
        due(x.row(0), 2);
        due(x.put(2, 0, 1), 0);
    }

    private static void ticks() {
        Finder x = new Finder();
        for (int r = 0; r < 4; r++) {
            x.row(0);
        }
        int[] taken = {0, 1, 9998, 9999};
        for (int r = 0; r < taken.length; r++) {
            for (int tick : beyond(0, 9999)) {
                due(x.put(r, tick, 1), NONE);
            }
            due(x.put(r, taken[r], 1), 0);
            due(x.look(r, 0, 0), taken[r]);
            for (int tick : beyond(0, 9999)) {
                due(x.put(r, tick, 1), NONE);
            }
            due(x.put(r, 9999, 1), 1);
            due(x.look(r, 1, 0), 9999);
        }
    }

    private static void notAheadOfTheOneBefore() {
        Finder x = new Finder();
        x.row(0);
        x.row(1);
        due(x.put(0, 500, 1), 0);
        due(x.put(0, 499, 1), NONE);
        due(x.put(0, 0, 1), NONE);
        due(x.put(0, 500, 1), 1);
        due(x.put(1, 0, 1), 0);
        due(x.put(1, 0, 1), 1);
        due(x.put(0, 499, 1), NONE);
        due(x.put(0, 501, 1), 2);
        due(x.put(0, 500, 1), NONE);
        due(x.put(1, 1, 1), 2);
        due(x.put(1, 0, 1), NONE);
        due(x.put(0, 9999, 1), 3);
        due(x.put(0, 9998, 1), NONE);
        due(x.put(0, 9999, 1), 4);
        due(x.put(1, 2, 1), 3);
    }

    private static void placesFromZero() {
        Finder x = new Finder();
        x.row(0);
        for (int i = 0; i < 30; i++) {
            due(x.put(0, 0, i < 15 ? i : 15), i);
        }
        for (int k = 0; k < 15; k++) {
            due(x.match(0, 0, k), k);
            due(x.look(0, k, 1), k);
        }
        due(x.match(0, 3, 15, 15, 15, 15), 18);
        x.rowOfKinds(0, 1);
        due(x.match(1, 0, 1), 0);
    }

    private static void oneToFourItems() {
        Finder x = new Finder();
        x.rowOfKinds(0, 1, 2, 3, 4);
        due(x.count(1), 1);
        due(x.count(1, 2), 1);
        due(x.count(1, 2, 3), 1);
        due(x.count(1, 2, 3, 4), 1);
        for (int i = 0; i < 4; i++) {
            due(x.match(0, i, 1), i < 1 ? i : NONE);
            due(x.match(0, i, 1, 2), i < 2 ? i : NONE);
            due(x.match(0, i, 1, 2, 3), i < 3 ? i : NONE);
            due(x.match(0, i, 1, 2, 3, 4), i);
        }
        due(x.count(), NONE);
        due(x.matches(0), NONE);
        due(x.match(0, 0), NONE);
        due(x.share(), NONE);
        due(x.lacking(0), NONE);
        due(x.sure(0), NONE);
        x.find(1, 4);
        int[] many = new int[7];
        for (int i = 0; i < x.tell(4); i++) {
            many[x.found(i, 5)]++;
        }
        int[] want = {0, 4, 6, 4, 1, 0, 0};
        for (int n = 0; n < many.length; n++) {
            due(many[n], want[n]);
        }
    }

    private static void twiceTheSame() {
        for (int there = 1; there <= 5; there++) {
            Finder x = new Finder();
            x.row(0);
            for (int i = 0; i < there; i++) {
                x.put(0, i, 0);
            }
            due(x.count(0), 1);
            due(x.count(0, 0), there >= 2 ? 1 : 0);
            due(x.count(0, 0, 0), there >= 3 ? 1 : 0);
            due(x.count(0, 0, 0, 0), there >= 4 ? 1 : 0);
            due(x.find(1, 4), Math.min(4, there));
        }
        Finder mixed = new Finder();
        mixed.rowOfKinds(0, 15, 0, 15, 0);
        due(mixed.count(15, 0, 15, 0), 1);
        due(mixed.count(15, 15, 0), 1);
        due(mixed.count(15, 15, 0, 0), 0);
        due(mixed.count(0, 15, 0), 1);
        due(mixed.count(0, 15, 0, 15), 0);
    }

    private static void placesOfTheirKinds() {
        Finder x = new Finder();
        x.under(15, 7);
        x.under(7, 0);
        x.rowOfKinds(0, 15, 7, 0, 15);
        due(x.matches(0, 0, 0, 0, 0), 1);
        due(x.matches(0, 15, 7, 0, 15), 1);
        due(x.matches(0, 7, 7, 0, 7), 1);
        due(x.matches(0, 15, 15, 0, 15), 0);
        due(x.matches(0, 15, 7, 7, 15), 0);
        due(x.matches(0, 15, 7, 0, 0), 1);
        due(x.matches(0, 15, 0), 3);
        due(x.matches(0, 0, 7), 4);
        due(x.matches(0, 7, 15), 2);
        due(x.match(0, 1, 7, 15), 3);
        due(x.count(1), 0);
        due(x.count(15, 1), 0);
    }

    private static void eachPlaceBehind() {
        Finder x = new Finder();
        x.under(1, 0);
        x.rowOfKinds(0, 1);
        due(x.count(0, 1), 0);
        due(x.count(1, 0), 0);
        due(x.count(1, 1), 0);
        due(x.put(0, 0, 1), 1);
        due(x.count(0, 1), 1);
        due(x.count(1, 0), 1);
        due(x.matches(0, 0, 1), 1);
        due(x.count(0, 1, 0), 0);
        Finder y = new Finder();
        y.rowOf(0, 7, 1, 7, 2, 7, 3, 7, 4);
        y.gap(0);
        y.span(0);
        due(y.count(1, 2, 3, 4), 1);
        due(y.count(1, 3, 4), 1);
        due(y.count(2, 1), 0);
        due(y.count(4, 3), 0);
        due(y.count(1, 2, 4, 3), 0);
    }

    private static void atMostGap() {
        int[] gaps = {0, 1, 2, 99, 100, 101, 5000, 9998, 9999};
        for (int g : gaps) {
            for (int step = 0; step < 3; step++) {
                Finder x = new Finder();
                due(x.span(9999), true);
                x.rowOf(0, 0, 1, step < 1 ? g : 0, 2, step < 2 ? g : 0, 3, g, 4);
                due(x.gap(g), true);
                due(x.count(1, 2, 3, 4), 1);
                due(x.count(step + 1, step + 2), 1);
                due(x.matches(0, 1, 2, 3, 4), 1);
                if (g > 0) {
                    due(x.gap(g - 1), true);
                    due(x.count(1, 2, 3, 4), 0);
                    due(x.count(step + 1, step + 2), 0);
                    due(x.matches(0, 1, 2, 3, 4), 0);
                    due(x.match(0, 0, 1, 2, 3, 4), NONE);
                    due(x.count(4), 1);
                }
            }
        }
        Finder only = new Finder();
        only.rowOf(0, 0, 1, 60, 2, 120, 3, 180, 4);
        only.gap(60);
        due(only.count(1, 2, 3, 4), 1);
        due(only.count(1, 3), 0);
        due(only.count(1, 2, 4), 0);
        due(only.count(1, 3, 4), 0);
    }

    private static void gapsNumbers() {
        Finder x = new Finder();
        due(x.tell(2), 100);
        x.rowOf(0, 0, 1, 100, 2, 201, 3);
        due(x.count(1, 2), 1);
        due(x.count(2, 3), 0);
        for (int ticks : beyond(0, 9999)) {
            due(x.gap(ticks), false);
            due(x.tell(2), 100);
        }
        int[] taken = {0, 1, 9998, 9999};
        for (int ticks : taken) {
            due(x.gap(ticks), true);
            due(x.tell(2), ticks);
            due(x.tell(3), 1000);
            for (int bad : beyond(0, 9999)) {
                due(x.gap(bad), false);
            }
            due(x.tell(2), ticks);
        }
    }

    private static void atMostSpan() {
        int[] spans = {0, 1, 2, 999, 1000, 1001, 5000, 9998, 9999};
        for (int s : spans) {
            for (int late = 0; late < 3; late++) {
                Finder x = new Finder();
                due(x.gap(9999), true);
                int from = (9999 - s) / 2;
                int to = from + s;
                x.rowOf(0, from, 1, late > 1 ? to : from, 2, late > 0 ? to : from, 3, to, 4);
                due(x.span(s), true);
                due(x.count(1, 4), 1);
                due(x.count(1, 2, 4), 1);
                due(x.count(1, 2, 3, 4), 1);
                due(x.matches(0, 1, 2, 3, 4), 1);
                if (s > 0) {
                    due(x.span(s - 1), true);
                    due(x.count(1, 4), 0);
                    due(x.count(1, 2, 4), 0);
                    due(x.count(1, 2, 3, 4), 0);
                    due(x.matches(0, 1, 2, 3, 4), 0);
                    due(x.match(0, 0, 1, 2, 3, 4), NONE);
                    due(x.count(1), 1);
                    due(x.count(4), 1);
                }
            }
        }
        Finder sum = new Finder();
        sum.rowOf(0, 0, 1, 90, 2, 180, 3, 270, 4);
        sum.span(270);
        due(sum.count(1, 2, 3, 4), 1);
        sum.span(269);
        due(sum.count(1, 2, 3, 4), 0);
        due(sum.count(1, 2, 3), 1);
        due(sum.count(2, 3, 4), 1);
        sum.span(180);
        due(sum.count(2, 3, 4), 1);
        sum.span(179);
        due(sum.count(2, 3, 4), 0);
    }

    private static void spansNumbers() {
        Finder x = new Finder();
        due(x.tell(3), 1000);
        x.rowOf(0, 0, 1, 500, 2, 1000, 3, 1001, 4);
        due(x.gap(9999), true);
        due(x.count(1, 3), 1);
        due(x.count(1, 4), 0);
        due(x.count(1, 2, 3), 1);
        due(x.count(1, 2, 4), 0);
        for (int ticks : beyond(0, 9999)) {
            due(x.span(ticks), false);
            due(x.tell(3), 1000);
        }
        int[] taken = {0, 1, 9998, 9999};
        for (int ticks : taken) {
            due(x.span(ticks), true);
            due(x.tell(3), ticks);
            due(x.tell(2), 9999);
            for (int bad : beyond(0, 9999)) {
                due(x.span(bad), false);
            }
            due(x.tell(3), ticks);
        }
    }

    private static void hasItIfThereIsAMatch() {
        Finder late = new Finder();
        late.rowOf(0, 0, 1, 5, 2, 10, 1, 15, 2, 20, 3);
        late.span(10);
        due(late.count(1, 2, 3), 1);
        due(late.match(0, 0, 1, 2, 3), 2);
        late.span(9);
        due(late.count(1, 2, 3), 0);

        Finder middle = new Finder();
        middle.rowOf(0, 0, 1, 10, 2, 100, 2, 150, 3);
        due(middle.count(1, 2, 3), 1);
        due(middle.matches(0, 1, 2, 3), 1);
        due(middle.match(0, 1, 1, 2, 3), 2);
        middle.gap(99);
        due(middle.count(1, 2, 3), 0);

        Finder early = new Finder();
        early.rowOf(0, 0, 1, 90, 2, 95, 1, 120, 3);
        due(early.count(1, 2, 3), 1);
        due(early.count(1, 2), 1);
        early.put(0, 9999, 1);
        early.put(0, 9999, 2);
        due(early.count(1, 2, 3), 1);

        Finder empty = new Finder();
        empty.row(0);
        due(empty.count(0), 0);
        due(empty.matches(0, 0), 0);
        due(empty.match(0, 0, 0), NONE);
    }

    private static void countOfRowsIn() {
        Finder x = new Finder();
        due(x.count(5), 0);
        for (int r = 0; r < ROWS; r++) {
            due(x.row(r % 2), r);
            due(x.count(5, 6), r);
            x.put(r, 0, 5);
            x.put(r, 0, 5);
            x.put(r, 1, 6);
            x.put(r, 2, 6);
        }
        due(x.count(5), 24);
        due(x.count(5, 6), 24);
        due(x.count(5, 5, 6, 6), 24);
        due(x.count(6, 5), 0);
        for (int r = 0; r < ROWS; r++) {
            x.take(r, false);
            due(x.count(5, 6), 23);
            x.take(r, true);
            due(x.count(5, 6), 24);
        }
        for (int r = 0; r < ROWS; r++) {
            x.take(r, false);
            due(x.count(5, 6), 23 - r);
        }
        x.take(23, true);
        due(x.count(5, 6), 1);
    }

    private static void whatIsPutIntoARowThatIsOut() {
        Finder x = new Finder();
        x.row(0);
        x.take(0, false);
        due(x.put(0, 0, 5), 0);
        due(x.count(5), 0);
        due(x.matches(0, 5), 1);
        due(x.find(1, 1), 0);
        due(x.expected(5, 6), 0);
        x.take(0, true);
        due(x.count(5), 1);
        due(x.find(1, 1), 1);
    }

    private static void theFirstMatch() {
        Finder x = new Finder();
        x.rowOfKinds(0, 9, 1, 1, 2, 2, 3, 3, 4, 4, 9);
        int[] want = {1, 3, 5, 7};
        for (int i = 0; i < 4; i++) {
            due(x.match(0, i, 1, 2, 3, 4), want[i]);
        }
        Finder y = new Finder();
        y.rowOf(0, 0, 1, 0, 1, 10, 2, 100, 2, 101, 2, 190, 3, 200, 3, 290, 4);
        int[] second = {0, 3, 5, 7};
        for (int i = 0; i < 4; i++) {
            due(y.match(0, i, 1, 2, 3, 4), second[i]);
        }
        y.gap(99);
        for (int i = 0; i < 4; i++) {
            due(y.match(0, i, 1, 2, 3, 4), NONE);
        }
        y.gap(110);
        due(y.match(0, 1, 1, 2, 3, 4), 3);
        y.gap(180);
        due(y.match(0, 1, 1, 2, 3, 4), 2);
        y.span(289);
        due(y.match(0, 0, 1, 2, 3, 4), NONE);
        y.span(290);
        due(y.match(0, 0, 1, 2, 3, 4), 0);
    }

    /** ROW j has j HAPPENINGS of KIND 5, for 0 to 4. */
    private static Finder fives() {
        Finder x = new Finder();
        for (int r = 0; r <= 4; r++) {
            x.row(0);
            for (int i = 0; i < r; i++) {
                x.put(r, i, 5);
            }
        }
        return x;
    }

    private static int itemsOf(int[] told) {
        int n = 0;
        while (n < 4 && told[n] == 5) {
            n++;
        }
        for (int k = n; k < 4; k++) {
            if (told[k] != NONE) {
                return 0;
            }
        }
        return n;
    }

    private static void noneBehindTheLast() {
        int[] some = {5, NONE, 16, -2};
        int[] matchesInFour = {NONE, 4, 6, 4, 1};
        for (int told = 0; told < 256; told++) {
            int[] p = {some[told & 3], some[told >> 2 & 3], some[told >> 4 & 3], some[told >> 6]};
            int n = itemsOf(p);
            Finder x = fives();
            due(x.count(p), n == 0 ? NONE : 5 - n);
            due(x.matches(4, p), matchesInFour[n]);
            for (int i = 0; i < 4; i++) {
                due(x.match(4, i, p), i < n ? i : NONE);
            }
            due(x.share(p), n < 2 ? NONE : (5 - n) * 1000 / (6 - n));
            due(x.lacking(0, p), n < 2 ? NONE : n - 1);
            due(x.lacking(1, p), NONE);
            for (int r = 0; r <= 4; r++) {
                due(x.sure(r, p), n >= 2 && r == n - 1 ? n - 2 + 100 : NONE);
            }
        }
    }

    private static void noneIsNotKind15() {
        Finder x = new Finder();
        x.rowOfKinds(0, 3);
        x.rowOfKinds(0, 3, 15);
        due(x.count(3), 2);
        due(x.count(3, 15), 1);
        due(x.count(3, 15, 15), 0);
        due(x.find(1, 2), 3);
        due(x.found(0, 1), NONE);
        due(x.found(2, 1), 15);
        due(x.found(2, 2), NONE);
        due(x.under(3, 15), true);
        due(x.isUnder(3, 15), 1);
        due(x.count(15), 2);
        due(x.under(3, NONE), true);
        due(x.isUnder(3, 15), 0);
        due(x.count(15), 1);
    }

    private static void memoryIsItsOwn() {
        Finder x = new Finder();
        Finder y = new Finder();
        x.rowOfKinds(1, 1, 2);
        due(y.tell(0), 0);
        y.rowOf(0, 5, 3, 6, 4, 7, 5);
        due(x.look(0, NONE, 0), 1);
        due(x.look(0, NONE, 2), 2);
        due(y.look(0, NONE, 2), 3);
        x.under(1, 0);
        due(y.isUnder(1, 0), 0);
        due(y.under(0, 1), true);
        due(x.isUnder(0, 1), 0);
        x.gap(7);
        x.span(8);
        due(y.tell(2), 100);
        due(y.tell(3), 1000);
        due(x.find(1, 2), 5);
        due(y.tell(4), 0);
        due(y.find(1, 1), 3);
        due(x.tell(4), 5);
        due(x.found(0, 0), 0);
        due(y.found(0, 0), 3);
        x.take(0, false);
        due(y.tell(1), 1);
        due(new Finder().tell(0), 0);
    }

    public static void main(String[] args) {
        sentence("An object is used for at most 512 calls after it has been made", RowFinderTerms::atMost512Calls);
        sentence("NONE = -1: There is none.", RowFinderTerms::none);
        sentence("KINDS 0 to 15", RowFinderTerms::kinds);
        sentence("each a KIND (any", RowFinderTerms::kindsOfLaterItems);
        sentence("each can be told to lie UNDER another one", RowFinderTerms::eachUnderEach);
        sentence("what lies UNDER one that does lies UNDER it, too", RowFinderTerms::underWhatIsUnder);
        sentence("UNDER one that does", RowFinderTerms::underInOneBranchAlone);
        sentence("(No KIND is UNDER itself.)", RowFinderTerms::noneUnderItself);
        sentence("A HAPPENING IS of a KIND if that is its own, or its own lies UNDER that.",
            RowFinderTerms::isOfItsOwnAndWhatIsOver);
        sentence("ROWS 0 to 23", RowFinderTerms::rows);
        sentence("NONE: no such ones", RowFinderTerms::rowsThatAreNotThereYet);
        sentence("each of a HEAP (0 or 1)", RowFinderTerms::heaps);
        sentence("IN at first, or taken OUT", RowFinderTerms::inAtFirst);
        sentence("with at most 30 HAPPENINGS", RowFinderTerms::atMost30Happenings);
        sentence("each at a TICK (0 to 9999)", RowFinderTerms::ticks);
        sentence("not ahead of the one before it", RowFinderTerms::notAheadOfTheOneBefore);
        sentence("PLACES in a ROW are numbered from 0.", RowFinderTerms::placesFromZero);
        sentence("A PATTERN is a row of one to four ITEMS", RowFinderTerms::oneToFourItems);
        sentence("also twice the same", RowFinderTerms::twiceTheSame);
        sentence("for each ITEM a PLACE whose HAPPENING IS of that KIND", RowFinderTerms::placesOfTheirKinds);
        sentence("each PLACE behind the one before", RowFinderTerms::eachPlaceBehind);
        sentence("between one and the next at most GAP TICKS", RowFinderTerms::atMostGap);
        sentence("GAP TICKS (0 to 9999; 100 at first)", RowFinderTerms::gapsNumbers);
        sentence("from the first to the last at most SPAN TICKS", RowFinderTerms::atMostSpan);
        sentence("SPAN TICKS (0 to 9999; 1000 at first)", RowFinderTerms::spansNumbers);
        sentence("A ROW HAS a PATTERN if there is a MATCH.", RowFinderTerms::hasItIfThereIsAMatch);
        sentence("COUNT: how many ROWS that are IN have it.", RowFinderTerms::countOfRowsIn);
        sentence("ROWS that are IN", RowFinderTerms::whatIsPutIntoARowThatIsOut);
        sentence("THE FIRST MATCH: the least, PLACE by PLACE.", RowFinderTerms::theFirstMatch);
        sentence("Where a PATTERN is asked for, its ITEMS are told as a, b, c, d; NONE behind the last one (a is one).",
            RowFinderTerms::noneBehindTheLast);
        sentence("NONE behind the last one", RowFinderTerms::noneIsNotKind15);
        sentence("All memory is the finder's own.", RowFinderTerms::memoryIsItsOwn);
        end();
    }
}

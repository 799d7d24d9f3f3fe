import java.util.ArrayList;
import java.util.Arrays;
import java.util.HashMap;
import java.util.HashSet;
import java.util.List;
import java.util.Map;
import java.util.Random;

/**
 * What the document says as a whole, and what of 'Terms' and the promises RowFinderTerms and RowFinderBounds do not
 * quote. Here what one call answers is held against what others answer, or against all that there could be.
 */
public final class RowFinderDocument extends Sentences {
    private static final int KINDS = 16;
    private static final int MOST_CALLS = 512;
    private static final int WORLDS = 6;
    /** Of up to four ITEMS of three KINDS. */
    private static final List<int[]> SMALL_PATTERNS = allPatterns(3, 4).stream().map(RowFinderDocument::items).toList();
    private static final List<List<int[]>> CHOICES = List.of(chosen(0), chosen(1), chosen(2), chosen(3), chosen(4));

    /** What a Finder is told before it is asked. It has five KINDS, and all its ROWS have HAPPENINGS. */
    private static final class World {
        static final int KINDS_HERE = 5;
        final int[] over = new int[KINDS_HERE];
        final int[] heaps = new int[6];
        final int[][] rows = new int[6][];
        final boolean[] in = new boolean[6];
        final int gap;
        final int span;

        World(int seed, int span) {
            Random dice = new Random(seed);
            this.span = span;
            gap = 20 + dice.nextInt(60);
            for (int k = 0; k < KINDS_HERE; k++) {
                over[k] = dice.nextInt(k + 1) - 1;
            }
            for (int r = 0; r < rows.length; r++) {
                heaps[r] = dice.nextInt(2);
                in[r] = r != seed % rows.length;
                rows[r] = new int[6 + 2 * dice.nextInt(5)];
                int tick = 0;
                for (int i = 0; i < rows[r].length; i += 2) {
                    tick += dice.nextInt(50);
                    rows[r][i] = tick;
                    rows[r][i + 1] = dice.nextInt(KINDS_HERE);
                }
            }
        }

        Finder made() {
            Finder x = new Finder();
            x.gap(gap);
            x.span(span);
            for (int k = 0; k < KINDS_HERE; k++) {
                x.under(k, over[k]);
            }
            for (int r = 0; r < rows.length; r++) {
                x.rowOf(heaps[r], rows[r]);
                if (!in[r]) {
                    x.take(r, false);
                }
            }
            return x;
        }

        int rowsInOf(int heap) {
            int n = 0;
            for (int r = 0; r < rows.length; r++) {
                n += in[r] && heaps[r] == heap ? 1 : 0;
            }
            return n;
        }

        World withoutHeap(int seed, int heap) {
            World w = new World(seed, span);
            for (int r = 0; r < rows.length; r++) {
                w.in[r] &= heaps[r] != heap;
            }
            return w;
        }
    }

    /** Asks what one Finder would have too few calls for: when those are used up, another is told the same. */
    private static final class Asked {
        private final World world;
        private final int m;
        private final int n;
        private final Map<List<Integer>, Integer> counts = new HashMap<>();
        private Finder x;

        Asked(World world, int m, int n) {
            this.world = world;
            this.m = m;
            this.n = n;
        }

        Finder finder() {
            if (x == null || x.calls() > MOST_CALLS - 20) {
                x = world.made();
                x.find(m, n);
            }
            return x;
        }

        int count(List<Integer> pattern) {
            return counts.computeIfAbsent(pattern, p -> finder().count(items(p)));
        }

        boolean has(int r, List<Integer> pattern) {
            return finder().matches(r, items(pattern)) > 0;
        }

        List<List<Integer>> found() {
            List<List<Integer>> all = new ArrayList<>();
            int many = finder().tell(4);
            for (int i = 0; i < many; i++) {
                List<Integer> pattern = new ArrayList<>();
                int length = finder().found(i, 5);
                for (int k = 0; k < length; k++) {
                    pattern.add(finder().found(i, k));
                }
                all.add(pattern);
            }
            return all;
        }
    }

    private static int[] items(List<Integer> pattern) {
        return pattern.stream().mapToInt(k -> k).toArray();
    }

    private static List<Integer> withItem(List<Integer> pattern, int at, int kind) {
        List<Integer> longer = new ArrayList<>(pattern);
        longer.add(at, kind);
        return longer;
    }

    private static List<Integer> withoutLast(List<Integer> pattern) {
        return pattern.subList(0, pattern.size() - 1);
    }

    /** In the document's order. */
    private static List<List<Integer>> allPatterns(int kinds, int atMost) {
        List<List<Integer>> all = new ArrayList<>();
        List<List<Integer>> longest = List.of(List.of());
        for (int n = 1; n <= atMost; n++) {
            List<List<Integer>> longer = new ArrayList<>();
            for (List<Integer> p : longest) {
                for (int k = 0; k < kinds; k++) {
                    longer.add(withItem(p, p.size(), k));
                }
            }
            all.addAll(longer);
            longest = longer;
        }
        return all;
    }

    private static void whatComesBehindWhat() {
        for (int a = 0; a < KINDS; a++) {
            for (int b = 0; b < KINDS; b++) {
                Finder x = new Finder();
                x.rowOf(0, 5, a, 5, b);
                x.rowOf(1, 5, a, 6, b);
                due(x.count(a, b), 2);
                due(x.count(b, a), a == b ? 2 : 0);
                due(x.find(1, 4), a == b ? 2 : 3);
                int last = a == b ? 1 : 2;
                due(x.found(last, 0), a);
                due(x.found(last, 1), b);
            }
        }
    }

    private static void inTreesWithinGapsAndSpan() {
        Finder x = new Finder();
        int[][] trees = {{1, 0}, {2, 0}, {3, 1}, {4, 1}, {5, 2}, {9, 8}, {15, 9}};
        for (int[] told : trees) {
            due(x.under(told[0], told[1]), true);
        }
        x.rowOf(0, 0, 3, 40, 5, 80, 15);
        x.rowOf(0, 0, 4, 40, 2, 80, 9);
        x.rowOf(1, 0, 5, 40, 3, 80, 8);
        due(x.count(0, 0, 8), 3);
        due(x.count(1, 2, 8), 2);
        due(x.count(1, 2, 9), 2);
        due(x.count(2, 1, 8), 1);
        due(x.count(3, 5, 15), 1);
        due(x.count(0, 15), 1);
        due(x.count(8, 0), 0);
        x.gap(40);
        due(x.count(0, 0, 8), 3);
        due(x.count(1, 8), 1);
        x.gap(39);
        due(x.count(0, 0, 8), 0);
        due(x.count(0, 0), 0);
        due(x.count(0), 3);
        x.gap(40);
        x.span(79);
        due(x.count(0, 0, 8), 0);
        due(x.count(0, 0), 3);
        due(x.count(0, 8), 3);
        x.span(80);
        due(x.count(0, 0, 8), 3);
    }

    private static void allThatEnoughRowsHave() {
        for (int seed = 1; seed <= WORLDS; seed++) {
            World world = new World(seed, 150);
            Asked asked = new Asked(world, 1, 1);
            for (int m = 1; m <= 4; m++) {
                for (int n = 1; n <= 4; n++) {
                    int least = m;
                    List<List<Integer>> want = allPatterns(World.KINDS_HERE, n);
                    want.removeIf(p -> asked.count(p) < least);
                    List<List<Integer>> got = new Asked(world, m, n).found();
                    due(got.size(), want.size());
                    due(new HashSet<>(got).size(), got.size());
                    due(got.equals(want), true);
                }
            }
        }
    }

    private static boolean longerOrNarrowerSays(Asked asked, List<Integer> p) {
        int times = asked.count(p);
        for (int at = 0; p.size() < 4 && at <= p.size(); at++) {
            for (int k = 0; k < KINDS; k++) {
                if (asked.count(withItem(p, at, k)) == times) {
                    return true;
                }
            }
        }
        for (int at = 0; at < p.size(); at++) {
            for (int k = 0; k < World.KINDS_HERE; k++) {
                List<Integer> narrower = new ArrayList<>(p);
                narrower.set(at, k);
                if (asked.world.over[k] == p.get(at) && asked.count(narrower) == times) {
                    return true;
                }
            }
        }
        return false;
    }

    private static void nothingLongerOrNarrower() {
        int[] many = new int[2];
        for (int seed = 1; seed <= WORLDS; seed++) {
            Asked asked = new Asked(new World(seed, 150), 1 + seed % 2, 4);
            List<List<Integer>> found = asked.found();
            for (int i = 0; i < found.size(); i++) {
                int want = longerOrNarrowerSays(asked, found.get(i)) ? 0 : 1;
                due(asked.finder().closed(i), want);
                many[want]++;
            }
        }
        due(many[0] > 50 && many[1] > 50, true);
    }

    /** It is the number that is compared: that of other ROWS counts, a greater one does not. */
    private static void theSameCount() {
        Finder x = new Finder();
        x.rowOf(0, 0, 1, 100, 2);
        due(x.find(1, 2), 3);
        due(x.closed(2), 1);
        x.rowOf(0, 0, 1, 100, 3, 200, 2);
        due(x.count(1, 2), 1);
        due(x.count(1, 3, 2), 1);
        due(x.closed(2), 0);
        x.rowOf(0, 0, 1, 100, 3, 200, 2);
        due(x.count(1, 3, 2), 2);
        due(x.closed(2), 1);
        due(x.found(2, 4), 1);
    }

    private static void theIthIsClosed() {
        Finder x = new Finder();
        x.rowOfKinds(0, 1, 2);
        x.rowOfKinds(0, 1, 3);
        x.rowOfKinds(1, 4);
        due(x.find(1, 2), 6);
        int[] closed = {1, 0, 0, 1, 1, 1};
        for (int i = 0; i < closed.length; i++) {
            due(x.closed(i), closed[i]);
        }
        due(x.find(1, 1), 4);
        for (int i = 0; i < 4; i++) {
            due(x.closed(i), closed[i]);
        }
        due(x.closed(4), NONE);
        due(x.find(2, 4), 1);
        due(x.closed(0), 1);
        due(x.closed(1), NONE);
    }

    private static void partsTwoHeapsBest() {
        int beyondFirst = 0;
        for (int seed = 1; seed <= 5 * WORLDS; seed++) {
            World world = new World(seed, 150);
            Asked asked = new Asked(world, 1 + seed % 3, 1 + seed % 4);
            Asked of0 = new Asked(world.withoutHeap(seed, 1), 1, 1);
            Asked of1 = new Asked(world.withoutHeap(seed, 0), 1, 1);
            List<List<Integer>> found = asked.found();
            int best = NONE;
            int widest = NONE;
            for (int i = 0; i < found.size(); i++) {
                List<Integer> p = found.get(i);
                int apart = Math.abs(of0.count(p) * world.rowsInOf(1) - of1.count(p) * world.rowsInOf(0));
                if (apart > widest) {
                    widest = apart;
                    best = i;
                }
            }
            due(asked.finder().best(), best);
            beyondFirst += best > 0 ? 1 : 0;
        }
        due(beyondFirst > WORLDS, true);
    }

    private static void ofWhatWasFoundAlone() {
        Finder x = new Finder();
        x.rowOfKinds(0, 1, 2);
        x.rowOfKinds(0, 1, 2);
        x.rowOfKinds(1, 2, 1);
        due(x.find(1, 1), 2);
        due(x.best(), 0);
        due(x.find(3, 4), 2);
        due(x.best(), 0);
        due(x.find(1, 2), 4);
        due(x.best(), 2);
    }

    private static void rowsThatLack() {
        int lacking = 0;
        for (int seed = 1; seed <= WORLDS; seed++) {
            World world = new World(seed, 150);
            Asked asked = new Asked(world, 1, 1);
            for (List<Integer> p : allPatterns(World.KINDS_HERE, 3)) {
                int i = 0;
                for (int r = 0; p.size() > 1 && r < world.rows.length; r++) {
                    boolean lacks = world.in[r] && asked.has(r, withoutLast(p)) && !asked.has(r, p);
                    due(asked.finder().sure(r, items(p)) != NONE, lacks);
                    if (lacks) {
                        due(asked.finder().lacking(i, items(p)), r);
                        i++;
                    }
                }
                due(asked.finder().lacking(i, items(p)), NONE);
                if (p.size() > 1) {
                    due(asked.count(p) + i, asked.count(withoutLast(p)));
                    lacking += i;
                }
            }
        }
        due(lacking > 100, true);
    }

    /** Up to that TICK what lacks could still have come, later it could not; with SPAN out of the way. */
    private static void noLaterThanSure() {
        int asked = 0;
        for (int seed = 1; seed <= 2 * WORLDS; seed++) {
            World world = new World(seed, 9999);
            for (List<Integer> p : allPatterns(World.KINDS_HERE, 2)) {
                int r = world.made().lacking(0, items(p));
                if (r == NONE || p.size() < 2) {
                    continue;
                }
                Finder intime = world.made();
                int sure = intime.sure(r, items(p));
                if (intime.put(r, sure, p.get(1)) == NONE) {
                    continue;
                }
                due(intime.sure(r, items(p)), NONE);
                Finder late = world.made();
                late.put(r, sure + 1, p.get(1));
                due(late.lacking(0, items(p)), r);
                asked++;
            }
        }
        due(asked > 20, true);
    }

    private static void sureOfEachRow() {
        Finder x = new Finder();
        for (int r = 0; r < 24; r++) {
            x.rowOf(r % 2, r, 1, 10 * r + 30, r % 3 == 0 ? 2 : 1);
        }
        for (int r = 0; r < 24; r++) {
            boolean lacks = r % 3 != 0 || 9 * r + 30 > 100;
            due(x.sure(r, 1, 2), !lacks ? NONE : r % 3 == 0 ? r + 100 : 10 * r + 130);
            due(x.sure(r, 1, 5), r % 3 == 0 ? r + 100 : 10 * r + 130);
        }
        x.gap(500);
        for (int r = 0; r < 24; r++) {
            due(x.sure(r, 1, 2), r % 3 == 0 ? NONE : 10 * r + 530);
        }
    }

    /** Of all orders of the KINDS, those in which one of the first stands somewhere ahead of one of the second. */
    private static long ordersAhead(boolean[] first, boolean[] second, int used, boolean firstSeen) {
        int n = first.length;
        if (used == (1 << n) - 1) {
            return 0;
        }
        long many = 0;
        for (int i = 0; i < n; i++) {
            if ((used >> i & 1) == 0) {
                int now = used | 1 << i;
                boolean met = firstSeen && second[i];
                many += met ? factorial(n - Integer.bitCount(now))
                    : ordersAhead(first, second, now, firstSeen || first[i]);
            }
        }
        return many;
    }

    private static long factorial(int n) {
        return n < 2 ? 1 : n * factorial(n - 1);
    }

    private static void mixedInAllOrders() {
        // KINDS 4 and 5 lie UNDER 1, 6 lies UNDER 4; 7 lies UNDER 2; 3 is another one.
        int[][] rows = {{1, 2}, {2, 1}, {4, 2}, {3, 7, 6}, {1, 1, 2}, {2, 5, 7, 3}, {1, 4, 2, 7}, {6, 5, 2, 3, 3},
            {4, 4, 4, 7, 2}, {1, 5, 6, 2, 2, 7}, {2, 1, 2, 2, 2, 2, 3}, {1, 2, 1, 2, 1, 2, 4}, {1, 4, 3}, {7, 3, 3}};
        Finder all = new Finder();
        long sum = 0;
        for (int[] kinds : rows) {
            boolean[] first = new boolean[kinds.length];
            boolean[] second = new boolean[kinds.length];
            for (int i = 0; i < kinds.length; i++) {
                first[i] = kinds[i] == 1 || kinds[i] >= 4 && kinds[i] <= 6;
                second[i] = kinds[i] == 2 || kinds[i] == 7;
            }
            long orders = factorial(kinds.length);
            long not = orders - ordersAhead(first, second, 0, false);
            long want = 1000000 - 1000000 * not / orders;
            Finder x = new Finder();
            x.rowOfKinds(0, kinds);
            all.rowOfKinds(1, kinds);
            dueExpected(x, want);
            sum += want;
        }
        dueExpected(all, sum);
    }

    private static void dueExpected(Finder x, long want) {
        int[][] trees = {{4, 1}, {5, 1}, {6, 4}, {7, 2}};
        for (int[] told : trees) {
            x.under(told[0], told[1]);
        }
        due(x.expected(1, 2), want);
        due(x.expected(2, 1), want);
    }

    /** The order in which they came, and when, is what chance alone does not know. */
    private static void chanceAlone() {
        int[][] orders = {{1, 2, 3, 2}, {2, 2, 1, 3}, {2, 2, 3, 1}, {1, 3, 2, 2}, {3, 2, 1, 2}};
        int[] ahead = {1, 0, 0, 1, 1};
        for (int i = 0; i < orders.length; i++) {
            int[] o = orders[i];
            Finder x = new Finder();
            x.rowOf(0, 0, o[0], 0, o[1], 50, o[2], 50, o[3]);
            x.rowOf(0, 0, o[0], 3000, o[1], 6000, o[2], 9999, o[3]);
            due(x.count(1, 2), ahead[i]);
            due(x.expected(1, 2), 2 * 666667);
            due(x.expected(3, 2), 2 * 666667);
            due(x.expected(1, 3), 2 * 500000);
        }
    }

    private static void howManyAreOfThem() {
        Finder x = new Finder();
        x.rowOfKinds(0, 3, 1, 4, 2, 1, 5, 9);
        due(x.expected(1, 2), 1000000 - 1000000 / 3);
        x.under(3, 1);
        due(x.expected(1, 2), 1000000 - 1000000 / 4);
        x.under(4, 2);
        due(x.expected(1, 2), 1000000 - 1000000 / 10);
        due(x.expected(3, 2), 1000000 - 1000000 / 3);
        due(x.expected(3, 4), 500000);
        x.under(5, 4);
        due(x.expected(1, 2), 1000000 - 1000000 / 20);
        due(x.expected(5, 1), 1000000 - 1000000 / 4);
        x.under(2, 8);
        due(x.expected(1, 8), 1000000 - 1000000 / 20);
        x.under(1, 7);
        due(x.expected(8, 7), 1000000 - 1000000 / 20);
        x.under(4, NONE);
        due(x.expected(8, 7), 1000000 - 1000000 / 4);
        due(x.expected(7, 4), 1000000 - 1000000 / 10);
    }

    private static void inMillionths() {
        Finder x = new Finder();
        for (int r = 0; r < 24; r++) {
            x.rowOfKinds(r % 2, 1, 2);
            due(x.expected(1, 2), (r + 1) * 500000L);
        }
        for (int i = 2; i < 8; i++) {
            x.put(0, 9, 2);
        }
        due(x.expected(1, 2), 23 * 500000L + 875000);
    }

    private static void shareOfTwoItemsOrMore() {
        Finder x = new Finder();
        x.rowOfKinds(0, 1, 2, 3, 4);
        x.rowOfKinds(0, 1, 2, 3);
        x.rowOfKinds(0, 1, 2);
        x.rowOfKinds(0, 1);
        due(x.share(1), NONE);
        due(x.share(1, 2), 750);
        due(x.share(1, 2, 3), 666);
        due(x.share(1, 2, 3, 4), 500);
    }

    /** All ways to choose so many of four PLACES, the least first. */
    private static List<int[]> chosen(int many) {
        List<int[]> all = new ArrayList<>();
        for (int set = 0; set < 1 << 4; set++) {
            if (Integer.bitCount(set) == many) {
                int[] places = new int[many];
                int rest = set;
                for (int k = 0; k < many; k++) {
                    places[k] = Integer.numberOfTrailingZeros(rest);
                    rest &= rest - 1;
                }
                all.add(places);
            }
        }
        all.sort(Arrays::compare);
        return all;
    }

    private static boolean isMatch(int[] ticks, int[] kinds, int[] items, int[] places, int gap, int span) {
        for (int k = 0; k < places.length; k++) {
            int own = kinds[places[k]];
            // In these ROWS KIND 1 lies UNDER 0.
            if (own != items[k] && !(own == 1 && items[k] == 0)) {
                return false;
            }
            if (k > 0 && ticks[places[k]] - ticks[places[k - 1]] > gap) {
                return false;
            }
        }
        return ticks[places[places.length - 1]] - ticks[places[0]] <= span;
    }

    private static void dueMatches(int[] ticks, int[] kinds, int gap, int span) {
        Finder x = new Finder();
        x.under(1, 0);
        x.gap(gap);
        x.span(span);
        x.row(0);
        for (int i = 0; i < kinds.length; i++) {
            x.put(0, ticks[i], kinds[i]);
        }
        for (int[] items : SMALL_PATTERNS) {
            int many = 0;
            int[] first = null;
            for (int[] places : CHOICES.get(items.length)) {
                if (isMatch(ticks, kinds, items, places, gap, span)) {
                    many++;
                    first = first == null ? places : first;
                }
            }
            due(x.count(items), many > 0 ? 1 : 0);
            due(x.matches(0, items), many);
            int last = items.length - 1;
            due(x.match(0, last, items), first == null ? NONE : first[last]);
        }
    }

    /** All ROWS of four HAPPENINGS of three KINDS, none to two TICKS apart. */
    private static void allSmallRows() {
        for (int mix = 0; mix < 81 * 27; mix++) {
            int[] kinds = {mix % 3, mix / 3 % 3, mix / 9 % 3, mix / 27 % 3};
            int steps = mix / 81;
            int[] ticks = {7, 7 + steps % 3, 7 + steps % 3 + steps / 3 % 3, 7 + steps % 3 + steps / 3 % 3 + steps / 9};
            for (int gap = 0; gap < 2; gap++) {
                for (int span = 0; span < 4; span++) {
                    dueMatches(ticks, kinds, gap, span);
                }
            }
        }
    }

    private static void whatItIs() {
        sentence("A finder of what comes behind what in rows of happenings", RowFinderDocument::whatComesBehindWhat);
        sentence("patterns of kinds that lie in trees, within told gaps and a span",
            RowFinderDocument::inTreesWithinGapsAndSpan);
        sentence("all that enough rows have, each once", RowFinderDocument::allThatEnoughRowsHave);
        sentence("those that nothing longer or narrower says as often", RowFinderDocument::nothingLongerOrNarrower);
        sentence("how often chance alone would bring two behind one another", RowFinderDocument::chanceAlone);
        sentence("rows that lack what should have come", RowFinderDocument::rowsThatLack);
        sentence("and the pattern that parts two heaps best.", RowFinderDocument::partsTwoHeapsBest);
    }

    private static void theTerms() {
        sentence("A MATCH in a ROW: for each ITEM a PLACE", RowFinderDocument::allSmallRows);
        sentence("A PATTERN that was FOUND is CLOSED if no PATTERN has the same COUNT that comes of it",
            RowFinderDocument::theSameCount);
        sentence("THE BEST of what was FOUND", RowFinderDocument::ofWhatWasFoundAlone);
        sentence("if in each ROW the KINDS of its HAPPENINGS were mixed over its PLACES in all orders, "
            + "how likely one of the first would be somewhere ahead of one of the second",
            RowFinderDocument::mixedInAllOrders);
        sentence("with x and y HAPPENINGS that are of them", RowFinderDocument::howManyAreOfThem);
        sentence("SHARE of a PATTERN of two ITEMS or more", RowFinderDocument::shareOfTwoItemsOrMore);
        sentence("SURE of such a ROW", RowFinderDocument::noLaterThanSure);
    }

    private static void thePromises() {
        sentence("Whether the i-th that was FOUND is CLOSED", RowFinderDocument::theIthIsClosed);
        sentence("EXPECTED of two KINDS, in millionths", RowFinderDocument::inMillionths);
        sentence("SURE of ROW r LACKING a PATTERN", RowFinderDocument::sureOfEachRow);
    }

    public static void main(String[] args) {
        whatItIs();
        theTerms();
        thePromises();
        end();
    }
}

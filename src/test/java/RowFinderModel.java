import java.util.ArrayList;
import java.util.Collections;
import java.util.HashMap;
import java.util.List;
import java.util.Map;
import java.util.Random;

/**
 * Random runs of calls on a RowFinder and on a slow model that is written straight from the document: it lists every
 * choice of PLACES of every ROW and writes down all PATTERNS that each choice is a MATCH of.
 */
public final class RowFinderModel {
    private static final int NONE = -1;
    /** The document promises nothing of what later calls answer. */
    private static final int MOST_CALLS = 512;
    private static int wrong = 0;
    private static long calls = 0;

    /** All MATCHES of one PATTERN in one ROW. */
    private static final class Matches {
        long many;
        int[] first;
        int lastTick = NONE;
    }

    private static final class Happening {
        final int tick;
        final int kind;

        Happening(int tick, int kind) {
            this.tick = tick;
            this.kind = kind;
        }
    }

    private static final class ModelRow {
        final int heap;
        boolean in = true;
        final List<Happening> happenings = new ArrayList<>();
        Map<List<Integer>, Matches> known;

        ModelRow(int heap) {
            this.heap = heap;
        }
    }

    private static final class Model {
        final Integer[] parent = new Integer[16];
        final List<ModelRow> rows = new ArrayList<>();
        int gap = 100;
        int span = 1000;
        List<List<Integer>> found = new ArrayList<>();
        List<Integer> counts = new ArrayList<>();

        static boolean kind(int k) {
            return k >= 0 && k <= 15;
        }

        static boolean number(int n) {
            return n >= 0 && n <= 9999;
        }

        boolean has(int r) {
            return r >= 0 && r < rows.size();
        }

        void changed() {
            for (ModelRow row : rows) {
                row.known = null;
            }
        }

        boolean liesUnder(int k, int of) {
            for (Integer at = parent[k]; at != null; at = parent[at]) {
                if (at == of) {
                    return true;
                }
            }
            return false;
        }

        boolean under(int k, int of) {
            if (!kind(k) || of != NONE && (!kind(of) || of == k || liesUnder(of, k))) {
                return false;
            }
            parent[k] = of == NONE ? null : Integer.valueOf(of);
            changed();
            return true;
        }

        int row(int heap) {
            if (heap != 0 && heap != 1 || rows.size() == 24) {
                return NONE;
            }
            rows.add(new ModelRow(heap));
            return rows.size() - 1;
        }

        int put(int r, int tick, int kind) {
            if (!has(r) || !number(tick) || !kind(kind)) {
                return NONE;
            }
            List<Happening> all = rows.get(r).happenings;
            if (all.size() == 30 || !all.isEmpty() && tick < all.get(all.size() - 1).tick) {
                return NONE;
            }
            all.add(new Happening(tick, kind));
            rows.get(r).known = null;
            return all.size() - 1;
        }

        boolean take(int r, boolean is) {
            if (!has(r) || rows.get(r).in == is) {
                return false;
            }
            rows.get(r).in = is;
            return true;
        }

        boolean gap(int ticks) {
            if (!number(ticks)) {
                return false;
            }
            gap = ticks;
            changed();
            return true;
        }

        boolean span(int ticks) {
            if (!number(ticks)) {
                return false;
            }
            span = ticks;
            changed();
            return true;
        }

        List<Integer> pattern(int a, int b, int c, int d) {
            int[] told = {a, b, c, d};
            List<Integer> items = new ArrayList<>();
            boolean ended = false;
            for (int item : told) {
                if (item == NONE) {
                    ended = true;
                } else if (ended || !kind(item)) {
                    return null;
                } else {
                    items.add(item);
                }
            }
            return items.isEmpty() ? null : items;
        }

        Map<List<Integer>, Matches> known(int r) {
            ModelRow row = rows.get(r);
            if (row.known == null) {
                row.known = new HashMap<>();
                choose(row, new ArrayList<>());
            }
            return row.known;
        }

        void choose(ModelRow row, List<Integer> places) {
            if (!places.isEmpty()) {
                write(row, places, new ArrayList<>());
            }
            if (places.size() == 4) {
                return;
            }
            int from = places.isEmpty() ? 0 : places.get(places.size() - 1) + 1;
            for (int p = from; p < row.happenings.size(); p++) {
                int tick = row.happenings.get(p).tick;
                boolean fits = true;
                if (!places.isEmpty()) {
                    fits = tick - row.happenings.get(places.get(places.size() - 1)).tick <= gap
                        && tick - row.happenings.get(places.get(0)).tick <= span;
                }
                if (fits) {
                    places.add(p);
                    choose(row, places);
                    places.remove(places.size() - 1);
                }
            }
        }

        void write(ModelRow row, List<Integer> places, List<Integer> items) {
            if (items.size() == places.size()) {
                Matches m = row.known.computeIfAbsent(new ArrayList<>(items), x -> new Matches());
                m.many++;
                int[] these = places.stream().mapToInt(x -> x).toArray();
                if (m.first == null || less(these, m.first)) {
                    m.first = these;
                }
                m.lastTick = Math.max(m.lastTick, row.happenings.get(these[these.length - 1]).tick);
                return;
            }
            int own = row.happenings.get(places.get(items.size())).kind;
            for (Integer k = own; k != null; k = parent[k]) {
                items.add(k);
                write(row, places, items);
                items.remove(items.size() - 1);
            }
        }

        static boolean less(int[] x, int[] y) {
            for (int i = 0; i < x.length; i++) {
                if (x[i] != y[i]) {
                    return x[i] < y[i];
                }
            }
            return false;
        }

        int countIn(List<Integer> items, int heap) {
            int n = 0;
            for (int r = 0; r < rows.size(); r++) {
                if (rows.get(r).in && (heap == NONE || rows.get(r).heap == heap)
                    && (items == null || known(r).containsKey(items))) {
                    n++;
                }
            }
            return n;
        }

        int count(List<Integer> p) {
            return p == null ? NONE : countIn(p, NONE);
        }

        long matches(int r, List<Integer> p) {
            if (!has(r) || p == null) {
                return NONE;
            }
            Matches m = known(r).get(p);
            return m == null ? 0 : m.many;
        }

        int match(int r, List<Integer> p, int i) {
            if (!has(r) || p == null || i < 0 || i >= p.size()) {
                return NONE;
            }
            Matches m = known(r).get(p);
            return m == null ? NONE : m.first[i];
        }

        int find(int m, int n) {
            if (m < 1 || m > 24 || n < 1 || n > 4) {
                return NONE;
            }
            Map<List<Integer>, Integer> tally = new HashMap<>();
            for (int r = 0; r < rows.size(); r++) {
                if (rows.get(r).in) {
                    for (List<Integer> p : known(r).keySet()) {
                        tally.merge(p, 1, Integer::sum);
                    }
                }
            }
            found = new ArrayList<>();
            for (Map.Entry<List<Integer>, Integer> e : tally.entrySet()) {
                if (e.getKey().size() <= n && e.getValue() >= m) {
                    found.add(e.getKey());
                }
            }
            found.sort(RowFinderModel::order);
            if (found.size() > 2000) {
                found = new ArrayList<>(found.subList(0, 2000));
            }
            counts = new ArrayList<>();
            for (List<Integer> p : found) {
                counts.add(tally.get(p));
            }
            return found.size();
        }

        int found(int i, int k) {
            if (i < 0 || i >= found.size() || k < 0 || k > 5) {
                return NONE;
            }
            List<Integer> p = found.get(i);
            if (k == 4) {
                return counts.get(i);
            }
            return k == 5 ? p.size() : k < p.size() ? p.get(k) : NONE;
        }

        int closed(int i) {
            if (i < 0 || i >= found.size()) {
                return NONE;
            }
            List<Integer> p = found.get(i);
            int times = count(p);
            for (int at = 0; p.size() < 4 && at <= p.size(); at++) {
                for (int k = 0; k < 16; k++) {
                    List<Integer> q = new ArrayList<>(p);
                    q.add(at, k);
                    if (count(q) == times) {
                        return 0;
                    }
                }
            }
            for (int at = 0; at < p.size(); at++) {
                for (int k = 0; k < 16; k++) {
                    List<Integer> q = new ArrayList<>(p);
                    q.set(at, k);
                    if (parent[k] != null && parent[k].equals(p.get(at)) && count(q) == times) {
                        return 0;
                    }
                }
            }
            return 1;
        }

        int best() {
            int best = NONE;
            int widest = -1;
            for (int i = 0; i < found.size(); i++) {
                List<Integer> p = found.get(i);
                int apart = Math.abs(countIn(p, 0) * countIn(null, 1) - countIn(p, 1) * countIn(null, 0));
                if (apart > widest) {
                    widest = apart;
                    best = i;
                }
            }
            return best;
        }

        int of(ModelRow row, int k) {
            int n = 0;
            for (Happening h : row.happenings) {
                if (h.kind == k || liesUnder(h.kind, k)) {
                    n++;
                }
            }
            return n;
        }

        long expected(int a, int b) {
            if (!kind(a) || !kind(b) || a == b || liesUnder(a, b) || liesUnder(b, a)) {
                return NONE;
            }
            long sum = 0;
            for (ModelRow row : rows) {
                int x = of(row, a);
                int y = of(row, b);
                if (row.in && x != 0 && y != 0) {
                    sum += 1000000 - 1000000 / pascal(x + y, x);
                }
            }
            return sum;
        }

        static long pascal(int n, int k) {
            long[] line = new long[n + 1];
            line[0] = 1;
            for (int i = 1; i <= n; i++) {
                for (int j = i; j > 0; j--) {
                    line[j] += line[j - 1];
                }
            }
            return line[k];
        }

        int share(List<Integer> p) {
            if (p == null || p.size() < 2) {
                return NONE;
            }
            int begun = count(p.subList(0, p.size() - 1));
            return begun == 0 ? 0 : count(p) * 1000 / begun;
        }

        boolean lacks(int r, List<Integer> p) {
            return has(r) && p != null && p.size() > 1 && rows.get(r).in
                && known(r).containsKey(p.subList(0, p.size() - 1)) && !known(r).containsKey(p);
        }

        int lacking(List<Integer> p, int i) {
            List<Integer> all = new ArrayList<>();
            for (int r = 0; r < rows.size(); r++) {
                if (lacks(r, p)) {
                    all.add(r);
                }
            }
            return i >= 0 && i < all.size() ? all.get(i) : NONE;
        }

        int sure(int r, List<Integer> p) {
            return lacks(r, p) ? Math.min(9999, known(r).get(p.subList(0, p.size() - 1)).lastTick + gap) : NONE;
        }

        int look(int r, int i, int what) {
            if (!has(r)) {
                return NONE;
            }
            ModelRow row = rows.get(r);
            if (i == NONE) {
                return what == 0 ? row.heap : what == 1 ? row.in ? 1 : 0 : what == 2 ? row.happenings.size() : NONE;
            }
            if (i < 0 || i >= row.happenings.size()) {
                return NONE;
            }
            return what == 0 ? row.happenings.get(i).tick : what == 1 ? row.happenings.get(i).kind : NONE;
        }

        int isUnder(int k, int of) {
            return !kind(k) || !kind(of) ? NONE : liesUnder(k, of) ? 1 : 0;
        }

        int tell(int what) {
            int all = 0;
            for (ModelRow row : rows) {
                all += row.happenings.size();
            }
            switch (what) {
                case 0: return rows.size();
                case 1: return countIn(null, NONE);
                case 2: return gap;
                case 3: return span;
                case 4: return found.size();
                case 5: return all;
                default: return NONE;
            }
        }
    }

    private static int order(List<Integer> p, List<Integer> q) {
        if (p.size() != q.size()) {
            return Integer.compare(p.size(), q.size());
        }
        for (int i = 0; i < p.size(); i++) {
            if (!p.get(i).equals(q.get(i))) {
                return Integer.compare(p.get(i), q.get(i));
            }
        }
        return 0;
    }

    /** What kind of run it is: how many KINDS and ROWS it uses, how far apart its TICKS lie, how long it is. */
    private static final class Run {
        final int seed;
        final Random dice;
        final int kinds;
        final int rows;
        final int step;
        final int length;
        final RowFinder x = new RowFinder();
        final Model y = new Model();
        final StringBuilder told = new StringBuilder();
        int asked = 0;

        Run(int seed) {
            this.seed = seed;
            dice = new Random(seed);
            kinds = 2 + dice.nextInt(dice.nextInt(3) == 0 ? 15 : 5);
            rows = 1 + dice.nextInt(dice.nextInt(3) == 0 ? 26 : 7);
            int[] steps = {1, 3, 20, 60, 150, 900};
            step = steps[dice.nextInt(steps.length)];
            length = 40 + dice.nextInt(470);
        }

        int odd() {
            int[] some = {-1, -2, 16, 24, 30, 9999, 10000, 2000, 99, Integer.MIN_VALUE, Integer.MAX_VALUE, 5, 4, 6, 32};
            return some[dice.nextInt(some.length)];
        }

        int oddly(int usual) {
            return dice.nextInt(25) == 0 ? odd() : usual;
        }

        int kind() {
            return oddly(dice.nextInt(kinds));
        }

        int aRow() {
            return oddly(dice.nextInt(rows));
        }

        int ticks() {
            return oddly(dice.nextInt(3) == 0 ? dice.nextInt(10000) : dice.nextInt(3 * step + 1));
        }

        int[] items() {
            int[] items = {NONE, NONE, NONE, NONE};
            int n = 1 + dice.nextInt(4);
            for (int k = 0; k < n; k++) {
                items[k] = kind();
            }
            if (dice.nextInt(30) == 0) {
                items[dice.nextInt(4)] = odd();
            }
            return items;
        }

        int aTick(int r) {
            int last = y.has(r) && !y.rows.get(r).happenings.isEmpty()
                ? y.rows.get(r).happenings.get(y.rows.get(r).happenings.size() - 1).tick : 0;
            return oddly(last + dice.nextInt(step + 1) - (dice.nextInt(30) == 0 ? 1 : 0));
        }

        int aFound() {
            return oddly(dice.nextInt(Math.max(1, y.found.size())));
        }

        void due(String call, long got, long want) {
            calls++;
            asked++;
            if (asked == MOST_CALLS + 1) {
                wrong++;
                System.out.println("run " + seed + " itself asks more than " + MOST_CALLS + " calls");
            }
            told.append(call).append(" -> ").append(want).append('\n');
            if (got != want) {
                wrong++;
                if (wrong <= 3) {
                    System.out.println("run " + seed + ":\n" + told + "but the last one answered " + got);
                }
            }
        }

        void due(String call, boolean got, boolean want) {
            due(call, got ? 1 : 0, want ? 1 : 0);
        }

        void go() {
            for (int i = 0; i < length && wrong == 0; i++) {
                int which = dice.nextInt(100);
                if (which < 45) {
                    change(which);
                } else {
                    ask(which);
                }
            }
            sweep();
        }

        void change(int which) {
            if (which < 30) {
                int r = aRow();
                int t = aTick(r);
                int k = kind();
                due("put(" + r + ", " + t + ", " + k + ")", x.put(r, t, k), y.put(r, t, k));
            } else if (which < 36) {
                int h = oddly(dice.nextInt(2));
                if (y.rows.size() < rows || h > 1) {
                    due("row(" + h + ")", x.row(h), y.row(h));
                }
            } else if (which < 39) {
                int k = kind();
                int of = dice.nextInt(4) == 0 ? NONE : kind();
                due("under(" + k + ", " + of + ")", x.under(k, of), y.under(k, of));
            } else if (which < 41) {
                int r = aRow();
                boolean is = dice.nextInt(3) != 0;
                due("take(" + r + ", " + is + ")", x.take(r, is), y.take(r, is));
            } else if (which < 43) {
                int t = ticks();
                due("gap(" + t + ")", x.gap(t), y.gap(t));
            } else {
                int t = oddly(Math.min(9999, 2 * Math.max(0, Math.min(9999, ticks()))));
                due("span(" + t + ")", x.span(t), y.span(t));
            }
        }

        void ask(int which) {
            int[] q = items();
            List<Integer> p = y.pattern(q[0], q[1], q[2], q[3]);
            String s = q[0] + ", " + q[1] + ", " + q[2] + ", " + q[3];
            int r = aRow();
            int i = oddly(dice.nextInt(4));
            if (which < 51) {
                due("count(" + s + ")", x.count(q[0], q[1], q[2], q[3]), y.count(p));
            } else if (which < 57) {
                due("matches(" + r + ", " + s + ")", x.matches(r, q[0], q[1], q[2], q[3]), y.matches(r, p));
            } else if (which < 63) {
                due("match(" + r + ", " + s + ", " + i + ")", x.match(r, q[0], q[1], q[2], q[3], i), y.match(r, p, i));
            } else if (which < 67) {
                due("share(" + s + ")", x.share(q[0], q[1], q[2], q[3]), y.share(p));
            } else if (which < 71) {
                due("lacking(" + s + ", " + i + ")", x.lacking(q[0], q[1], q[2], q[3], i), y.lacking(p, i));
            } else if (which < 75) {
                due("sure(" + r + ", " + s + ")", x.sure(r, q[0], q[1], q[2], q[3]), y.sure(r, p));
            } else {
                askMore(which);
            }
        }

        void askMore(int which) {
            int a = aFound();
            int k = oddly(dice.nextInt(6));
            int r = aRow();
            if (which < 78) {
                int m = oddly(1 + dice.nextInt(Math.max(1, rows / 2)));
                int n = oddly(1 + dice.nextInt(4));
                due("find(" + m + ", " + n + ")", x.find(m, n), y.find(m, n));
            } else if (which < 84) {
                due("found(" + a + ", " + k + ")", x.found(a, k), y.found(a, k));
            } else if (which < 88) {
                due("closed(" + a + ")", x.closed(a), y.closed(a));
            } else if (which < 90) {
                due("best()", x.best(), y.best());
            } else if (which < 93) {
                int b = kind();
                int c = kind();
                due("expected(" + b + ", " + c + ")", x.expected(b, c), y.expected(b, c));
            } else if (which < 96) {
                int at = dice.nextInt(4) == 0 ? NONE : oddly(dice.nextInt(8));
                int what = oddly(dice.nextInt(3));
                due("look(" + r + ", " + at + ", " + what + ")", x.look(r, at, what), y.look(r, at, what));
            } else if (which < 98) {
                int b = kind();
                int c = kind();
                due("isUnder(" + b + ", " + c + ")", x.isUnder(b, c), y.isUnder(b, c));
            } else {
                due("tell(" + k + ")", x.tell(k), y.tell(k));
            }
        }

        /** As much as there are calls left for of all that can be seen at the end, whatever was refused before. */
        void sweep() {
            List<Runnable> all = new ArrayList<>();
            sweepRows(all);
            sweepFound(all);
            sweepKinds(all);
            Collections.shuffle(all, dice);
            for (int i = 0; i < all.size() && asked < MOST_CALLS; i++) {
                all.get(i).run();
            }
        }

        void sweepRows(List<Runnable> all) {
            for (int w = -1; w < 8; w++) {
                int what = w;
                all.add(() -> due("tell(" + what + ")", x.tell(what), y.tell(what)));
            }
            for (int row = 0; row < y.rows.size(); row++) {
                int r = row;
                for (int at = -1; at <= y.rows.get(r).happenings.size(); at++) {
                    int i = at;
                    for (int w = 0; w < 3; w++) {
                        int what = w;
                        all.add(() -> due("look(" + r + ", " + i + ", " + what + ")", x.look(r, i, what),
                            y.look(r, i, what)));
                    }
                }
            }
        }

        void sweepFound(List<Runnable> all) {
            int step = 1 + y.found.size() / 100;
            for (int at = -1; at <= y.found.size(); at += step) {
                int i = Math.min(y.found.size(), at + dice.nextInt(step));
                for (int item = 0; item < 6; item++) {
                    int k = item;
                    all.add(() -> due("found(" + i + ", " + k + ")", x.found(i, k), y.found(i, k)));
                }
                all.add(() -> due("closed(" + i + ")", x.closed(i), y.closed(i)));
            }
        }

        void sweepKinds(List<Runnable> all) {
            for (int kind = 0; kind < 16; kind++) {
                int k = kind;
                for (int over = 0; over < 16; over++) {
                    int of = over;
                    all.add(() -> due("isUnder(" + k + ", " + of + ")", x.isUnder(k, of), y.isUnder(k, of)));
                    all.add(() -> due("expected(" + k + ", " + of + ")", x.expected(k, of), y.expected(k, of)));
                }
            }
        }
    }

    /** Full ROWS of all KINDS, so that more than 2000 are there to be FOUND. */
    private static void fullRun(int seed, int kinds, int step, int m, int n) {
        Run run = new Run(seed);
        for (int r = 0; r < 24; r++) {
            int heap = run.dice.nextInt(2);
            run.due("row(" + heap + ")", run.x.row(heap), run.y.row(heap));
            for (int i = 0; i < 15; i++) {
                int t = i * step;
                int k = run.dice.nextInt(kinds);
                run.due("put(" + r + ", " + t + ", " + k + ")", run.x.put(r, t, k), run.y.put(r, t, k));
            }
        }
        run.due("under(3, 0)", run.x.under(3, 0), run.y.under(3, 0));
        run.due("find(" + m + ", " + n + ")", run.x.find(m, n), run.y.find(m, n));
        System.out.println("a full run found " + run.y.found.size());
        run.due("best()", run.x.best(), run.y.best());
        if (run.dice.nextInt(2) == 0) {
            run.due("take(0, false)", run.x.take(0, false), run.y.take(0, false));
            run.due("gap(30)", run.x.gap(30), run.y.gap(30));
            run.due("best()", run.x.best(), run.y.best());
        }
        run.sweep();
    }

    public static void main(String[] args) {
        int runs = args.length > 0 ? Integer.parseInt(args[0]) : 400;
        for (int seed = 1; seed <= runs && wrong == 0; seed++) {
            new Run(seed).go();
        }
        int[][] full = {{16, 10, 1, 4}, {16, 10, 5, 3}, {16, 60, 4, 4}, {12, 10, 6, 4}, {9, 10, 7, 4}, {8, 10, 5, 4},
            {5, 10, 15, 4}};
        for (int seed = 1001; seed < 1043 && wrong == 0; seed++) {
            int[] told = full[seed % full.length];
            fullRun(seed, told[0], told[1], told[2], told[3]);
        }
        System.out.println(wrong == 0 ? "all of " + calls + " answers are as due" : wrong + " answers are not as due");
        if (wrong != 0) {
            System.exit(1);
        }
    }
}

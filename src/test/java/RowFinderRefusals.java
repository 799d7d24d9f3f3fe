import java.util.ArrayList;
import java.util.Arrays;
import java.util.List;

/**
 * "A call that is refused (NONE, false) changes nothing." Each scene is played twice, once with a refused call behind
 * it and once without; whatever is asked and done from there on must be answered alike.
 */
public final class RowFinderRefusals extends Sentences {
    private static final int MOST_CALLS = 512;
    private static final int KINDS = 16;
    private static final int ROWS = 24;
    private static final int[][] NO_PATTERNS = {{NONE, NONE, NONE, NONE}, {NONE, 1, NONE, NONE}, {NONE, 1, 2, 3},
        {1, NONE, 2, NONE}, {1, NONE, NONE, 2}, {1, NONE, 2, 3}, {1, 2, NONE, 3}, {16, NONE, NONE, NONE},
        {1, 16, NONE, NONE}, {1, 2, 16, NONE}, {1, 2, 3, 16}, {-2, 1, NONE, NONE}, {1, -2, NONE, NONE}, {1, 2, -2, NONE},
        {1, 2, 3, -2}, {LOW, 2, 3, 4}, {1, HIGH, NONE, NONE}, {1, 2, 3, LOW + 4}, {1, 2, 3, 256}, {65537, 2, 3, 4}};
    private static final int[][] PATTERNS = {{1, NONE, NONE, NONE}, {0, NONE, NONE, NONE}, {15, NONE, NONE, NONE},
        {1, 2, NONE, NONE}, {0, 2, NONE, NONE}, {2, 1, NONE, NONE}, {0, 15, NONE, NONE}, {1, 2, 3, NONE},
        {0, 0, 0, NONE}, {1, 2, 1, 3}, {0, 0, 0, 0}, {0, 1, 2, 3}};

    private interface Call {
        long on(RowFinder x);
    }

    private static final class Told {
        final String name;
        final Call call;

        Told(String name, Call call) {
            this.name = name;
            this.call = call;
        }
    }

    /** Calls that are played on an object when it is there. */
    private static final class Script {
        final List<Told> calls = new ArrayList<>();

        private Script add(String name, Call call) {
            calls.add(new Told(name, call));
            return this;
        }

        private static String items(int[] p) {
            return p[0] + ", " + p[1] + ", " + p[2] + ", " + p[3];
        }

        Script under(int k, int of) {
            return add("under(" + k + ", " + of + ")", x -> x.under(k, of) ? 1 : 0);
        }

        Script row(int heap) {
            return add("row(" + heap + ")", x -> x.row(heap));
        }

        Script put(int r, int tick, int kind) {
            return add("put(" + r + ", " + tick + ", " + kind + ")", x -> x.put(r, tick, kind));
        }

        Script take(int r, boolean is) {
            return add("take(" + r + ", " + is + ")", x -> x.take(r, is) ? 1 : 0);
        }

        Script gap(int ticks) {
            return add("gap(" + ticks + ")", x -> x.gap(ticks) ? 1 : 0);
        }

        Script span(int ticks) {
            return add("span(" + ticks + ")", x -> x.span(ticks) ? 1 : 0);
        }

        Script count(int[] p) {
            return add("count(" + items(p) + ")", x -> x.count(p[0], p[1], p[2], p[3]));
        }

        Script matches(int r, int[] p) {
            return add("matches(" + r + ", " + items(p) + ")", x -> x.matches(r, p[0], p[1], p[2], p[3]));
        }

        Script match(int r, int[] p, int i) {
            return add("match(" + r + ", " + items(p) + ", " + i + ")", x -> x.match(r, p[0], p[1], p[2], p[3], i));
        }

        Script find(int m, int n) {
            return add("find(" + m + ", " + n + ")", x -> x.find(m, n));
        }

        Script found(int i, int k) {
            return add("found(" + i + ", " + k + ")", x -> x.found(i, k));
        }

        Script closed(int i) {
            return add("closed(" + i + ")", x -> x.closed(i));
        }

        Script best() {
            return add("best()", x -> x.best());
        }

        Script expected(int a, int b) {
            return add("expected(" + a + ", " + b + ")", x -> x.expected(a, b));
        }

        Script share(int[] p) {
            return add("share(" + items(p) + ")", x -> x.share(p[0], p[1], p[2], p[3]));
        }

        Script lacking(int[] p, int i) {
            return add("lacking(" + items(p) + ", " + i + ")", x -> x.lacking(p[0], p[1], p[2], p[3], i));
        }

        Script sure(int r, int[] p) {
            return add("sure(" + r + ", " + items(p) + ")", x -> x.sure(r, p[0], p[1], p[2], p[3]));
        }

        Script look(int r, int i, int what) {
            return add("look(" + r + ", " + i + ", " + what + ")", x -> x.look(r, i, what));
        }

        Script isUnder(int k, int of) {
            return add("isUnder(" + k + ", " + of + ")", x -> x.isUnder(k, of));
        }

        Script tell(int what) {
            return add("tell(" + what + ")", x -> x.tell(what));
        }

        long[] playOn(RowFinder x) {
            long[] answers = new long[calls.size()];
            for (int i = 0; i < answers.length; i++) {
                answers[i] = calls.get(i).call.on(x);
            }
            return answers;
        }

        /** In parts that a scene leaves room for, since nothing is promised of the 513th call. */
        List<Script> parts(int most) {
            List<Script> all = new ArrayList<>();
            for (int from = 0; from < calls.size(); from += most) {
                Script part = new Script();
                part.calls.addAll(calls.subList(from, Math.min(calls.size(), from + most)));
                all.add(part);
            }
            return all;
        }
    }

    // The scenes

    private static Script newObject() {
        return new Script();
    }

    private static Script someRows() {
        Script s = new Script().under(1, 0).under(2, 1).row(0).put(0, 0, 1).put(0, 5, 2).put(0, 8, 1).put(0, 9, 3);
        s.row(1).put(1, 10, 2).put(1, 20, 1).put(1, 300, 2).row(0).put(2, 7, 0).put(2, 7, 15);
        return s.row(1).take(1, false).find(1, 3);
    }

    /** Of those with even numbers (0) or odd ones (1) all are OUT, so that it shows wherever one is taken IN or OUT. */
    private static Script allRows(int out) {
        Script s = new Script().under(0, 15).under(3, 0).gap(0).span(0);
        for (int r = 0; r < ROWS; r++) {
            s.row(r % 3 % 2);
            for (int i = 0; i < r % 4; i++) {
                s.put(r, 100 * r + r % 2 * i, (r + 3 * i) % 4);
            }
        }
        s.find(2, 4);
        for (int r = out; r < ROWS; r += 2) {
            s.take(r, false);
        }
        return s;
    }

    private static Script fullRows() {
        Script s = new Script().gap(9999).span(9999);
        for (int k = 1; k < KINDS; k++) {
            s.under(k, k - 1);
        }
        for (int r = 0; r < 3; r++) {
            s.row(r % 2);
            for (int i = 0; i < 30; i++) {
                s.put(r, r == 0 ? 9999 : 300 * i, (7 * i + r) % KINDS);
            }
        }
        return s.take(1, false).find(1, 4);
    }

    private static Script nothingFound() {
        Script s = new Script().row(0).row(1).put(0, 0, 1).put(0, 9999, 2).put(1, 9998, 1).put(1, 9998, 0);
        return s.under(4, 1).find(1, 2).find(24, 1);
    }

    // What shows in what state an object is

    private static Script asking(RowFinder there) {
        Script s = new Script();
        for (int what = 0; what <= 5; what++) {
            s.tell(what);
        }
        int rows = there.tell(0);
        for (int r = 0; r <= rows; r++) {
            for (int what = 0; what <= 2; what++) {
                s.look(r, NONE, what);
            }
            for (int i = 0; i <= there.look(r, NONE, 2); i++) {
                s.look(r, i, 0).look(r, i, 1);
            }
        }
        for (int k = 0; k < KINDS; k++) {
            for (int of = 0; of < KINDS; of++) {
                s.isUnder(k, of);
            }
            s.expected(k, (k + 1) % KINDS).expected(k, (k + 7) % KINDS);
        }
        for (int[] p : PATTERNS) {
            s.count(p).share(p).lacking(p, 0).lacking(p, 1);
            for (int r = 0; r < rows; r += 1 + rows / 4) {
                s.matches(r, p).match(r, p, 0).match(r, p, 1).sure(r, p);
            }
        }
        s.best();
        int found = there.tell(4);
        for (int i = 0; i <= found; i += 1 + found / 20) {
            s.found(i, 0).found(i, 1).found(i, 2).found(i, 3).found(i, 4).found(i, 5).closed(i);
        }
        return s.found(found - 1, 0).found(found - 1, 5).found(found, 0).best();
    }

    private static Script goingOnWithRows(RowFinder there) {
        Script s = new Script();
        int rows = there.tell(0);
        for (int r = 0; r < rows; r++) {
            int last = Math.max(0, there.look(r, there.look(r, NONE, 2) - 1, 0));
            s.put(r, last - 1, 1).put(r, last, 1).put(r, last, 2).look(r, NONE, 2);
        }
        s.row(1).row(0).put(rows, 0, 15).put(rows, 0, 0).tell(0).tell(1).tell(5).find(1, 2);
        for (int i = 0; i < 25; i++) {
            s.found(i, 0).found(i, 1).found(i, 4);
        }
        return s.best().count(PATTERNS[0]).count(PATTERNS[3]);
    }

    private static Script goingOnWithTaking(RowFinder there) {
        Script s = new Script();
        for (int r = 0; r <= there.tell(0); r++) {
            s.take(r, true).tell(1).count(PATTERNS[0]).take(r, false).take(r, false).tell(1);
        }
        s.find(1, 1).take(0, true).find(1, 2).found(0, 0).found(0, 4).closed(0).best();
        return s.gap(50).count(PATTERNS[3]).span(50).count(PATTERNS[3]).tell(2).tell(3);
    }

    private static Script goingOnWithKinds() {
        Script s = new Script();
        for (int k = 0; k < KINDS; k++) {
            s.under(k, (k + 5) % KINDS).isUnder(k, 0).under((k + 1) % KINDS, k).isUnder(3, k).under(k, k / 2);
        }
        s.find(1, 2);
        for (int i = 0; i < 20; i++) {
            s.found(i, 0).found(i, 1).found(i, 4);
        }
        for (int k = 0; k < KINDS; k++) {
            s.under(k, NONE);
        }
        return s.count(PATTERNS[0]).count(PATTERNS[1]).find(1, 4).tell(4).found(0, 0).best();
    }

    // The calls that a scene refuses

    private static void refusedChanges(Script s, RowFinder there) {
        for (int bad : beyond(0, 15)) {
            s.under(bad, 0).under(bad, 15).under(bad, NONE);
        }
        for (int bad : beyondButNone(0, 15)) {
            s.under(0, bad).under(3, bad).under(15, bad);
        }
        for (int k = 0; k < KINDS; k++) {
            for (int of = 0; of < KINDS; of++) {
                if (k == of || there.isUnder(of, k) == 1) {
                    s.under(k, of);
                }
            }
        }
        for (int bad : beyond(0, 1)) {
            s.row(bad);
        }
        if (there.tell(0) == ROWS) {
            s.row(0).row(1);
        }
        for (int bad : beyond(0, 9999)) {
            s.gap(bad).span(bad);
        }
    }

    private static void refusedOfRows(Script s, RowFinder there) {
        int rows = there.tell(0);
        for (int bad : beyond(0, rows - 1)) {
            s.put(bad, 9999, 1).take(bad, true).take(bad, false);
        }
        for (int r = 0; r < rows; r++) {
            s.take(r, there.look(r, NONE, 1) == 1);
        }
        for (int r = 0; r < rows; r += 1 + rows / 4) {
            int many = there.look(r, NONE, 2);
            int last = Math.max(0, there.look(r, many - 1, 0));
            for (int bad : beyond(0, 15)) {
                s.put(r, 9999, bad);
            }
            for (int bad : beyond(0, 9999)) {
                s.put(r, bad, 1);
            }
            if (last > 0) {
                s.put(r, last - 1, 0).put(r, 0, 15);
            }
            if (many == 30) {
                s.put(r, last, 1).put(r, 9999, 1).put(r, 9999, 15);
            }
        }
    }

    private static void refusedOfPatterns(Script s, RowFinder there) {
        int rows = there.tell(0);
        for (int[] p : NO_PATTERNS) {
            s.count(p).share(p).lacking(p, 0).sure(0, p).matches(0, p).match(0, p, 0);
        }
        for (int k = 0; k < KINDS; k += 5) {
            int[] one = {k, NONE, NONE, NONE};
            s.share(one).lacking(one, 0).sure(0, one);
        }
        for (int bad : beyond(0, rows - 1)) {
            s.matches(bad, PATTERNS[3]).match(bad, PATTERNS[3], 0).sure(bad, PATTERNS[3]);
        }
        for (int bad : beyond(0, 3)) {
            s.match(0, PATTERNS[0], bad).match(rows - 1, PATTERNS[10], bad);
        }
        for (int bad : beyond(0, ROWS - 1)) {
            s.lacking(PATTERNS[3], bad).lacking(PATTERNS[10], bad);
        }
        for (int[] p : PATTERNS) {
            for (int r = 0; r < rows; r += 1 + rows / 4) {
                if (there.sure(r, p[0], p[1], p[2], p[3]) == NONE) {
                    s.sure(r, p);
                }
                if (there.matches(r, p[0], p[1], p[2], p[3]) == 0) {
                    s.match(r, p, 0).match(r, p, 3);
                }
            }
        }
    }

    private static void refusedOfFound(Script s, RowFinder there) {
        int found = there.tell(4);
        for (int bad : beyond(1, 24)) {
            s.find(bad, 1).find(bad, 4);
        }
        for (int bad : beyond(1, 4)) {
            s.find(1, bad).find(24, bad);
        }
        s.find(0, 0).find(25, 5).find(LOW, HIGH);
        for (int bad : beyond(0, found - 1)) {
            s.found(bad, 0).found(bad, 4).closed(bad);
        }
        for (int bad : beyond(0, 5)) {
            s.found(0, bad).found(found - 1, bad);
        }
        if (found == 0) {
            s.best();
        }
    }

    private static void refusedOfTheRest(Script s, RowFinder there) {
        for (int bad : beyond(0, 15)) {
            s.isUnder(bad, 0).isUnder(15, bad).expected(bad, 0).expected(15, bad);
        }
        for (int a = 0; a < KINDS; a++) {
            for (int b = 0; b < KINDS; b += 3) {
                if (a == b || there.isUnder(a, b) == 1 || there.isUnder(b, a) == 1) {
                    s.expected(a, b);
                }
            }
        }
        for (int bad : beyond(0, 5)) {
            s.tell(bad).look(0, NONE, bad).look(0, 0, bad);
        }
        for (int bad : beyond(0, there.tell(0) - 1)) {
            s.look(bad, NONE, 0).look(bad, 0, 0);
        }
        for (int bad : beyondButNone(0, 29)) {
            s.look(0, bad, 0).look(0, bad, 1);
        }
    }

    private static Script refused(RowFinder there) {
        Script s = new Script();
        refusedChanges(s, there);
        refusedOfRows(s, there);
        refusedOfPatterns(s, there);
        refusedOfFound(s, there);
        refusedOfTheRest(s, there);
        return s;
    }

    /** What a refused call answers: false is 0. */
    private static long refusal(Told told) {
        return told.name.matches("(under|take|gap|span)\\(.*") ? 0 : NONE;
    }

    private static RowFinder played(Script scene) {
        RowFinder x = new RowFinder();
        scene.playOn(x);
        return x;
    }

    private static List<Script> witnesses(Script scene) {
        int room = MOST_CALLS - scene.calls.size() - 1;
        List<Script> all = new ArrayList<>(asking(played(scene)).parts(room));
        all.add(goingOnWithRows(played(scene)).parts(room).get(0));
        all.add(goingOnWithTaking(played(scene)).parts(room).get(0));
        all.add(goingOnWithKinds().parts(room).get(0));
        return all;
    }

    /** Plays each of the calls, alone, behind the scene, and looks whether it changed anything. */
    private static void changeNothing(String scene, Script script, Script calls, boolean areRefused) {
        for (Script witness : witnesses(script)) {
            long[] want = witness.playOn(played(script));
            for (Told told : calls.calls) {
                RowFinder x = played(script);
                long answer = told.call.on(x);
                if (areRefused) {
                    due(scene + ": " + told.name, answer, refusal(told));
                }
                long[] got = witness.playOn(x);
                int at = Math.max(0, Arrays.mismatch(got, want));
                due(scene + ": " + witness.calls.get(at).name + " behind " + told.name, got[at], want[at]);
            }
        }
    }

    private static void scene(String name, Script script) {
        sentence("A call that is refused (NONE, false) changes nothing.",
            () -> changeNothing(name, script, refused(played(script)), true));
        sentence("Nothing is promised beyond the answers and state changes described above",
            () -> changeNothing(name, script, asking(played(script)), false));
    }

    public static void main(String[] args) {
        scene("a new object", newObject());
        scene("some ROWS", someRows());
        scene("24 ROWS, the even ones OUT", allRows(0));
        scene("24 ROWS, the odd ones OUT", allRows(1));
        scene("ROWS of 30", fullRows());
        scene("nothing FOUND", nothingFound());
        end();
    }
}

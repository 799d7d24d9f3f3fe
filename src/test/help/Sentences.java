import java.io.IOException;
import java.nio.file.Files;
import java.nio.file.Path;
import java.util.ArrayList;
import java.util.Arrays;
import java.util.List;
import java.util.StringJoiner;

/** What the tests have in common that go through the document sentence by sentence. */
abstract class Sentences {
    static final int NONE = -1;
    static final int LOW = Integer.MIN_VALUE;
    static final int HIGH = Integer.MAX_VALUE;
    private static final Path DOCUMENT = Path.of("../shared/DOC.md");
    /** The hashCode of the words for which these tests were written. */
    private static final int WORDS_THEN = 350174703;
    /** The document promises nothing of what later calls answer, so no test asks for it. */
    private static final int MOST_CALLS = 512;
    private static final int MOST_TOLD = 20;

    private static String document = null;
    private static String sentence = "";
    private static Finder last = null;
    private static int sentences = 0;
    private static int answers = 0;
    private static int wrong = 0;

    /** Runs the test of one sentence, which is told in the document's own words. */
    static void sentence(String words, Runnable test) {
        sentence = words;
        sentences++;
        if (!document().contains(plain(words))) {
            faultOfTests("the document does not say \"" + words + "\"; look whether its test is still due");
        }
        int before = answers;
        test.run();
        if (answers == before) {
            fail("nothing was asked");
        }
    }

    static void due(long got, long want) {
        answers++;
        if (got != want) {
            fail("the last call of " + (last == null ? "none" : last.run()) + "\n  answered " + got + ", due is " + want);
        }
    }

    /** For calls that no Finder keeps. */
    static void due(String call, long got, long want) {
        answers++;
        if (got != want) {
            fail(call + " answered " + got + ", due is " + want);
        }
    }

    static void due(boolean got, boolean want) {
        due(got ? 1 : 0, want ? 1 : 0);
    }

    static void end() {
        System.out.println(sentences + " sentences, " + answers + " answers, " + wrong + " of them not as due");
        if (wrong != 0) {
            System.exit(1);
        }
    }

    private static void fail(String what) {
        wrong++;
        if (wrong <= MOST_TOLD) {
            System.out.println("\"" + sentence + "\": " + what);
        }
    }

    /** Only told if the document has been put in other words since: the program is not at fault then. */
    static void faultOfTests(String what) {
        if (document().hashCode() == WORDS_THEN) {
            fail(what);
        } else {
            System.out.println(what);
        }
    }

    static String plain(String text) {
        return text.replace("`", "").replaceAll("\\s+", " ");
    }

    /** Its words without what stands around them: headings, and the marks of what is set apart. */
    static String document() {
        if (document == null) {
            try {
                document = plain(Files.readString(DOCUMENT).replaceAll("(?m)^(#|```).*$", ""));
            } catch (IOException e) {
                document = "";
            }
        }
        return document;
    }

    /**
     * Numbers on both sides of a range: the two next to it, the ends of int, and those that fewer bits would take for
     * one within.
     */
    static int[] beyond(int first, int last) {
        int[] some = {first - 1, last + 1, first - 2, last + 2, -last - 1, last + 16, first + 16, first + 24, first + 32,
            first + 64, first + 256, last + 256, first + 65536, last + 65536, first + (1 << 24), first + (1 << 28),
            LOW, LOW + first, LOW + last, LOW + 1, HIGH, HIGH - 1, HIGH - last};
        return Arrays.stream(some).filter(n -> n < first || n > last).distinct().toArray();
    }

    /** The same where NONE has a meaning of its own. */
    static int[] beyondButNone(int first, int last) {
        return Arrays.stream(beyond(first, last)).filter(n -> n != NONE).toArray();
    }

    /** A RowFinder that keeps the run of its calls. A PATTERN is told as its ITEMS, or as all four of a, b, c, d. */
    static final class Finder {
        private final RowFinder x = new RowFinder();
        private final List<String> calls = new ArrayList<>();

        private static int[] four(int[] items) {
            int[] p = {NONE, NONE, NONE, NONE};
            System.arraycopy(items, 0, p, 0, items.length);
            return p;
        }

        private void call(String name, Object... told) {
            StringJoiner all = new StringJoiner(", ", name + "(", ")");
            for (Object one : told) {
                all.add(one instanceof int[] p ? p[0] + ", " + p[1] + ", " + p[2] + ", " + p[3] : one.toString());
            }
            last = this;
            calls.add(all.toString());
            if (calls.size() == MOST_CALLS + 1) {
                fail("the test itself asks more than " + MOST_CALLS + " calls: " + run());
            }
        }

        String run() {
            int from = Math.max(0, calls.size() - 60);
            return (from > 0 ? ".. " + from + " calls more .. " : "") + String.join("; ", calls.subList(from, calls.size()));
        }

        int calls() {
            return calls.size();
        }

        boolean under(int k, int of) {
            call("under", k, of);
            return x.under(k, of);
        }

        int row(int heap) {
            call("row", heap);
            return x.row(heap);
        }

        int put(int r, int tick, int kind) {
            call("put", r, tick, kind);
            return x.put(r, tick, kind);
        }

        boolean take(int r, boolean is) {
            call("take", r, is);
            return x.take(r, is);
        }

        boolean gap(int ticks) {
            call("gap", ticks);
            return x.gap(ticks);
        }

        boolean span(int ticks) {
            call("span", ticks);
            return x.span(ticks);
        }

        int count(int... items) {
            int[] p = four(items);
            call("count", (Object) p);
            return x.count(p[0], p[1], p[2], p[3]);
        }

        long matches(int r, int... items) {
            int[] p = four(items);
            call("matches", r, p);
            return x.matches(r, p[0], p[1], p[2], p[3]);
        }

        /** PLACE i stands ahead of the PATTERN here. */
        int match(int r, int i, int... items) {
            int[] p = four(items);
            call("match", r, p, i);
            return x.match(r, p[0], p[1], p[2], p[3], i);
        }

        int find(int m, int n) {
            call("find", m, n);
            return x.find(m, n);
        }

        int found(int i, int k) {
            call("found", i, k);
            return x.found(i, k);
        }

        int closed(int i) {
            call("closed", i);
            return x.closed(i);
        }

        int best() {
            call("best");
            return x.best();
        }

        long expected(int a, int b) {
            call("expected", a, b);
            return x.expected(a, b);
        }

        int share(int... items) {
            int[] p = four(items);
            call("share", (Object) p);
            return x.share(p[0], p[1], p[2], p[3]);
        }

        /** The number i stands ahead of the PATTERN here. */
        int lacking(int i, int... items) {
            int[] p = four(items);
            call("lacking", p, i);
            return x.lacking(p[0], p[1], p[2], p[3], i);
        }

        int sure(int r, int... items) {
            int[] p = four(items);
            call("sure", r, p);
            return x.sure(r, p[0], p[1], p[2], p[3]);
        }

        int look(int r, int i, int what) {
            call("look", r, i, what);
            return x.look(r, i, what);
        }

        int isUnder(int k, int of) {
            call("isUnder", k, of);
            return x.isUnder(k, of);
        }

        int tell(int what) {
            call("tell", what);
            return x.tell(what);
        }

        /** A ROW whose HAPPENINGS are told as TICK, KIND, TICK, KIND .. */
        int rowOf(int heap, int... ticksAndKinds) {
            int r = row(heap);
            for (int i = 0; i + 1 < ticksAndKinds.length; i += 2) {
                due(put(r, ticksAndKinds[i], ticksAndKinds[i + 1]), i / 2);
            }
            return r;
        }

        /** A ROW with a HAPPENING of each of these KINDS, a TICK apart. */
        int rowOfKinds(int heap, int... kinds) {
            int r = row(heap);
            for (int i = 0; i < kinds.length; i++) {
                due(put(r, i, kinds[i]), i);
            }
            return r;
        }

        /** The number under which a PATTERN was FOUND, NONE if it was not. */
        int numberOf(int... items) {
            int[] p = four(items);
            int size = tell(4);
            for (int i = 0; i < size; i++) {
                if (found(i, 5) == items.length && found(i, 0) == p[0] && found(i, 1) == p[1] && found(i, 2) == p[2]
                    && found(i, 3) == p[3]) {
                    return i;
                }
            }
            return NONE;
        }
    }
}

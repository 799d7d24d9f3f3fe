import java.lang.reflect.Field;
import java.lang.reflect.Method;
import java.lang.reflect.Modifier;
import java.util.ArrayList;
import java.util.Arrays;
import java.util.List;
import java.util.Random;

/** The document's public face, and what stays true where it promises nothing of what is answered. */
public final class RowFinderFace extends Sentences {
    private static final int MOST_CALLS = 512;
    private static final String[] METHODS = {
        "boolean under(int k, int of)", "int row(int heap)", "int put(int r, int tick, int kind)",
        "boolean take(int r, boolean is)", "boolean gap(int ticks)", "boolean span(int ticks)",
        "int count(int a, int b, int c, int d)", "long matches(int r, int a, int b, int c, int d)",
        "int match(int r, int a, int b, int c, int d, int i)", "int find(int m, int n)", "int found(int i, int k)",
        "int closed(int i)", "int best()", "long expected(int a, int b)", "int share(int a, int b, int c, int d)",
        "int lacking(int a, int b, int c, int d, int i)", "int sure(int r, int a, int b, int c, int d)",
        "int look(int r, int i, int what)", "int isUnder(int k, int of)", "int tell(int what)"};

    private static String typesOf(String method) {
        return method.replaceAll("(\\w+) \\w+(?=[,)])", "$1");
    }

    private static String told(Method m) {
        List<String> types = new ArrayList<>();
        for (Class<?> type : m.getParameterTypes()) {
            types.add(type.getName());
        }
        return m.getReturnType().getName() + " " + m.getName() + "(" + String.join(", ", types) + ")";
    }

    private static void hasMethod(String method) {
        int there = 0;
        for (Method m : RowFinder.class.getMethods()) {
            boolean open = Modifier.isPublic(m.getModifiers()) && !Modifier.isStatic(m.getModifiers());
            if (open && m.getExceptionTypes().length == 0 && told(m).equals(typesOf(method))) {
                there++;
            }
        }
        due(method, there, 1);
    }

    private static void theClass() {
        int how = RowFinder.class.getModifiers();
        due("public", Modifier.isPublic(how) ? 1 : 0, 1);
        due("final", Modifier.isFinal(how) ? 1 : 0, 1);
        due("class above it", RowFinder.class.getSuperclass() == Object.class ? 1 : 0, 1);
        due("interfaces", RowFinder.class.getInterfaces().length, 0);
        due("package", RowFinder.class.getPackageName().length(), 0);
        long own = Arrays.stream(RowFinder.class.getMethods())
            .filter(m -> m.getDeclaringClass() == RowFinder.class).count();
        due("public methods", own, METHODS.length);
        due("public classes", RowFinder.class.getClasses().length, 0);
    }

    private static void theConstant() {
        Field[] open = RowFinder.class.getFields();
        due("public fields", open.length, 1);
        if (open.length == 0) {
            return;
        }
        due("NONE", open[0].getName().equals("NONE") ? 1 : 0, 1);
        int how = open[0].getModifiers();
        due("static and final", Modifier.isStatic(how) && Modifier.isFinal(how) ? 1 : 0, 1);
        due("int", open[0].getType() == int.class ? 1 : 0, 1);
        due("its number", RowFinder.NONE, -1);
    }

    private static void theConstructor() {
        due("constructors", RowFinder.class.getDeclaredConstructors().length, 1);
        due("public ones", RowFinder.class.getConstructors().length, 1);
        due("what it is told", RowFinder.class.getConstructors()[0].getParameterCount(), 0);
    }

    /** Calls that are chosen, with all that they are told, by the dice. */
    private static final class AnyCalls {
        private static final int[] ODD = {LOW, LOW + 1, -9999, -17, -2, NONE, 6, 16, 24, 30, 31, 1999, 2000, 9999,
            10000, 1 << 28, HIGH - 1, HIGH};
        private final RowFinder x = new RowFinder();
        private final Random dice;
        private int tick = 0;

        AnyCalls(int seed) {
            dice = new Random(seed);
        }

        private int any(int many) {
            return dice.nextInt(12) == 0 ? ODD[dice.nextInt(ODD.length)] : dice.nextInt(many);
        }

        private int[] anyItems() {
            int[] p = {any(6), NONE, NONE, NONE};
            int length = 1 + dice.nextInt(4);
            for (int k = 1; k < length; k++) {
                p[k] = any(6);
            }
            return p;
        }

        private int anyTick() {
            tick += dice.nextInt(5);
            return dice.nextInt(12) == 0 ? any(10000) : tick;
        }

        long next() {
            int which = dice.nextInt(40);
            return which < 6 ? ofPattern(which) : which < 20 ? other(which) : x.put(any(6), anyTick(), any(6));
        }

        private long ofPattern(int which) {
            int[] p = anyItems();
            switch (which) {
                case 0: return x.count(p[0], p[1], p[2], p[3]);
                case 1: return x.matches(any(6), p[0], p[1], p[2], p[3]);
                case 2: return x.match(any(6), p[0], p[1], p[2], p[3], any(4));
                case 3: return x.share(p[0], p[1], p[2], p[3]);
                case 4: return x.lacking(p[0], p[1], p[2], p[3], any(3));
                default: return x.sure(any(6), p[0], p[1], p[2], p[3]);
            }
        }

        private long other(int which) {
            switch (which) {
                case 6: return x.under(any(6), any(6)) ? 1 : 0;
                case 7: return x.row(any(2));
                case 8: return x.take(any(6), dice.nextBoolean()) ? 1 : 0;
                case 9: return x.gap(any(60)) ? 1 : 0;
                case 10: return x.span(any(200)) ? 1 : 0;
                case 11: return x.find(1 + any(5), 1 + any(4));
                case 12: return x.found(any(50), any(6));
                case 13: return x.closed(any(50));
                case 14: return x.best();
                case 15: return x.expected(any(6), any(6));
                case 16: return x.look(any(6), any(4), any(3));
                case 17: return x.look(any(6), NONE, any(3));
                case 18: return x.isUnder(any(6), any(6));
                default: return x.tell(any(6));
            }
        }
    }

    /** All answers to a run of calls as one number. */
    private static long answersOf(int seed, int calls) {
        AnyCalls any = new AnyCalls(seed);
        long all = 0;
        for (int i = 0; i < calls; i++) {
            all = all * 31 + any.next();
        }
        return all;
    }

    /** Free is what they answer; the language still asks that each comes to an end and throws nothing. */
    private static void laterCallsEnd() {
        for (int seed = 1; seed <= 40; seed++) {
            int thrown = 0;
            try {
                answersOf(seed, 4 * MOST_CALLS);
            } catch (RuntimeException e) {
                thrown = 1;
                System.out.println(e);
            }
            due("a call of the long run " + seed, thrown, 0);
        }
    }

    private static void anotherIsNotTouched() {
        for (int seed = 1; seed <= 10; seed++) {
            long before = answersOf(seed, MOST_CALLS);
            answersOf(seed + 1, 3 * MOST_CALLS);
            due("run " + seed + " behind a long one", answersOf(seed, MOST_CALLS), before);
        }
    }

    /** What is free is left to Object, so that no answer can hang on it. */
    private static void leftToObject() {
        for (String name : List.of("toString", "equals", "hashCode")) {
            for (Method m : RowFinder.class.getMethods()) {
                if (m.getName().equals(name)) {
                    due(name, m.getDeclaringClass() == Object.class ? 1 : 0, 1);
                }
            }
        }
    }

    /** Of one object nothing is promised here; but objects have nothing in common, so each thread may use its own. */
    private static void eachThreadItsOwn() {
        int threads = 8;
        long[] alone = new long[threads];
        long[] together = new long[threads];
        Thread[] all = new Thread[threads];
        for (int i = 0; i < threads; i++) {
            int seed = i;
            alone[i] = answersOf(seed, MOST_CALLS);
            all[i] = new Thread(() -> together[seed] = answersOf(seed, MOST_CALLS));
        }
        for (Thread one : all) {
            one.start();
        }
        for (int i = 0; i < threads; i++) {
            try {
                all[i].join();
            } catch (InterruptedException e) {
                Thread.currentThread().interrupt();
            }
            due("run " + i + " beside others", together[i], alone[i]);
        }
    }

    public static void main(String[] args) {
        sentence("public final class RowFinder {", RowFinderFace::theClass);
        sentence("public static final int NONE = -1;", RowFinderFace::theConstant);
        sentence("public RowFinder();", RowFinderFace::theConstructor);
        for (String method : METHODS) {
            sentence("public " + method + ";", () -> hasMethod(method));
        }
        sentence("what later calls answer is free.", RowFinderFace::laterCallsEnd);
        sentence("nothing about an object after its 512th call.", RowFinderFace::anotherIsNotTouched);
        sentence("How the state is held inside the object is free, as are the speed of each call, "
            + "the text of toString and the behaviour of equals and hashCode.", RowFinderFace::leftToObject);
        sentence("Use of one object from several threads at once is not promised to be safe.",
            RowFinderFace::eachThreadItsOwn);
        end();
    }
}

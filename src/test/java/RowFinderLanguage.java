import java.io.IOException;
import java.lang.reflect.Field;
import java.lang.reflect.Method;
import java.lang.reflect.Modifier;
import java.nio.file.Files;
import java.nio.file.Path;
import java.util.Set;
import java.util.TreeSet;
import java.util.regex.Matcher;
import java.util.regex.Pattern;

/** Those rules of LANGUAGE.md that can be seen in the text or in the classes; RowFinderFace has the public face. */
public final class RowFinderLanguage {
    private static final String SOURCE = "src/main/java/RowFinder.java";
    private static final String[] FORBIDDEN = {
        "\\bthrow\\b", "\\bthrows\\b", "\\btry\\b", "\\bcatch\\b", "\\bsynchronized\\b", "\\bassert\\b", "\\bimport\\b",
        "\\bpackage\\b", "->", "::", "Exact\\b", "\\bSystem\\b", "\\bRandom\\b", "\\bThread\\b", "\\bprotected\\b",
        "\\bvar\\b", "hashCode", "toString"};
    private static int wrong = 0;

    private static void say(boolean good, String what) {
        if (!good) {
            wrong++;
            System.out.println(what);
        }
    }

    private static void methods() {
        Set<String> open = new TreeSet<>();
        for (Method m : RowFinder.class.getMethods()) {
            open.add(m.getName());
        }
        for (Method m : RowFinder.class.getDeclaredMethods()) {
            int how = m.getModifiers();
            say(Modifier.isPublic(how) || Modifier.isPrivate(how), m + " is neither public nor private");
            say(Modifier.isPublic(how) || !open.contains(m.getName()), m + " has a public method's name");
            say(m.getParameterCount() <= 7, m + " has more than seven parameters");
        }
    }

    private static void fields(Class<?> c) {
        int own = 0;
        for (Field f : c.getDeclaredFields()) {
            int how = f.getModifiers();
            if (Modifier.isStatic(how)) {
                say(Modifier.isFinal(how), f + " is static and not final");
            } else {
                own++;
            }
            if (c == RowFinder.class && !Modifier.isPrivate(how)) {
                say(f.getName().equals("NONE") && Modifier.isPublic(how), f + " is not private");
            }
        }
        say(own <= 20, c + " has more than twenty fields");
    }

    private static void classes() {
        fields(RowFinder.class);
        Class<?>[] inside = RowFinder.class.getDeclaredClasses();
        say(inside.length <= 11, "more than twelve classes");
        for (Class<?> c : inside) {
            int how = c.getModifiers();
            say(Modifier.isStatic(how) && !Modifier.isPublic(how), c + " is not static, or public");
            fields(c);
        }
    }

    private static String withoutComments(String text) {
        return text.replaceAll("(?s)/\\*.*?\\*/", "").replaceAll("//[^\n]*", "");
    }

    private static void text() throws IOException {
        String code = withoutComments(Files.readString(Path.of(SOURCE)));
        for (String word : FORBIDDEN) {
            Matcher m = Pattern.compile(word).matcher(code);
            say(!m.find(), "the program has " + word);
        }
        int begun = 0;
        String[] lines = code.split("\n");
        for (int i = 0; i < lines.length; i++) {
            if (lines[i].matches("    (    )?[a-z].*\\) \\{")) {
                begun = i;
            }
            say(!lines[i].matches("    (    )?\\}") || i - begun <= 60, "a method of over sixty lines ends at " + i);
        }
    }

    public static void main(String[] args) throws IOException {
        methods();
        classes();
        text();
        System.out.println(wrong == 0 ? "the language is as due" : wrong + " things are not as due");
        if (wrong != 0) {
            System.exit(1);
        }
    }
}

import java.io.IOException;
import java.lang.reflect.Method;
import java.nio.file.Files;
import java.nio.file.Path;
import java.util.Set;
import java.util.TreeSet;
import java.util.regex.Matcher;
import java.util.regex.Pattern;

/** Makes the calls that README.md shows; each must answer what is said behind it, and no call may be left out. */
public final class RowFinderReadme {
    private static final Path README = Path.of("README.md");
    private static final Pattern LINE = Pattern.compile("(?m)^x\\.");
    private static final Pattern CALL = Pattern.compile("(?m)^x\\.(\\w+)\\((.*?)\\); +// (-?\\w+)");

    private static Object read(String word) {
        switch (word) {
            case "true": return true;
            case "false": return false;
            case "NONE": return RowFinder.NONE;
            default: return Integer.valueOf(word);
        }
    }

    private static Object[] told(String text) {
        if (text.isEmpty()) {
            return new Object[0];
        }
        String[] words = text.split(", ");
        Object[] all = new Object[words.length];
        for (int i = 0; i < all.length; i++) {
            all[i] = read(words[i]);
        }
        return all;
    }

    private static Object answer(RowFinder x, String name, Object[] told) throws ReflectiveOperationException {
        for (Method m : RowFinder.class.getMethods()) {
            if (m.getName().equals(name)) {
                return m.invoke(x, told);
            }
        }
        return "no such call";
    }

    private static Set<String> face() {
        Set<String> all = new TreeSet<>();
        for (Method m : RowFinder.class.getMethods()) {
            if (m.getDeclaringClass() == RowFinder.class) {
                all.add(m.getName());
            }
        }
        return all;
    }

    public static void main(String[] args) throws IOException, ReflectiveOperationException {
        RowFinder x = new RowFinder();
        Set<String> notShown = face();
        String readme = Files.readString(README);
        // A call whose answer is not told in the form that is read here is wrong, too.
        long wrong = LINE.matcher(readme).results().count() - CALL.matcher(readme).results().count();
        Matcher call = CALL.matcher(readme);
        while (call.find()) {
            Object got = answer(x, call.group(1), told(call.group(2)));
            String want = read(call.group(3)).toString();
            if (!got.toString().equals(want)) {
                wrong++;
                System.out.println(call.group() + ", but it answered " + got);
            }
            notShown.remove(call.group(1));
        }
        if (wrong != 0 || !notShown.isEmpty()) {
            System.out.println(wrong + " answers are not as README.md says; it does not show " + notShown);
            System.exit(1);
        }
        System.out.println("all answers are as README.md says");
    }
}

import java.io.IOException;
import java.nio.file.DirectoryStream;
import java.nio.file.Files;
import java.nio.file.Path;
import java.util.ArrayList;
import java.util.Arrays;
import java.util.List;
import java.util.regex.Matcher;
import java.util.regex.Pattern;

/** Whether each sentence of the document has a test that quotes it. */
public final class RowFinderLedger extends Sentences {
    private static final Path TESTS = Path.of("src/test/java");
    /** What stands between two quotes and is no longer than that says nothing by itself. */
    private static final int FEW_WORDS = 3;
    private static final Pattern WORD = Pattern.compile("\\w+");
    private static final Pattern QUOTE = Pattern.compile("sentence\\(\\s*\"([^\"]*)\"");
    private static final Pattern METHOD = Pattern.compile("\"((?:boolean|int|long) \\w+\\([^\"]*\\))\"");

    private static List<String> quotes() throws IOException {
        List<String> all = new ArrayList<>();
        try (DirectoryStream<Path> files = Files.newDirectoryStream(TESTS, "*.java")) {
            for (Path file : files) {
                String text = Files.readString(file).replaceAll("\"\\s*\\+ \"", "");
                for (Pattern which : List.of(QUOTE, METHOD)) {
                    Matcher m = which.matcher(text);
                    while (m.find()) {
                        all.add(plain(m.group(1)));
                    }
                }
            }
        }
        return all;
    }

    /** The document with a mark instead of all that is quoted. */
    private static String unquoted(List<String> quotes) {
        char[] rest = document().toCharArray();
        for (String quote : quotes) {
            int at = quote.isEmpty() ? -1 : document().indexOf(quote);
            while (at >= 0) {
                Arrays.fill(rest, at, at + quote.length(), '\n');
                at = document().indexOf(quote, at + 1);
            }
        }
        return new String(rest);
    }

    public static void main(String[] args) throws IOException {
        List<String> quotes = quotes();
        int told = 0;
        for (String part : unquoted(quotes).split("\n+")) {
            if (WORD.matcher(part).results().count() > FEW_WORDS) {
                faultOfTests("no test quotes \"" + part.trim() + "\"");
                told++;
            }
        }
        System.out.println(quotes.size() + " quotes; " + told + " parts of the document are not among them");
        due("quotes", quotes.isEmpty() ? 0 : 1, 1);
        end();
    }
}

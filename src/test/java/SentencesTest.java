import java.io.IOException;
import java.nio.file.DirectoryStream;
import java.nio.file.Files;
import java.nio.file.Path;
import java.util.ArrayList;
import java.util.Comparator;
import java.util.List;
import java.util.regex.Matcher;
import java.util.regex.Pattern;

/** No word of a promise or of the terms is without a test that quotes it by 'about'. Run from the project's root. */
public final class SentencesTest {
    private static final Due DUE = new Due("SentencesTest");
    private static final Path TESTS = Path.of("src/test/java");
    private static final Pattern ABOUT =
        Pattern.compile("DUE\\.about\\((\\d+), (\"[^\"]*\"(?:\\s*\\+ \"[^\"]*\")*)\\);");
    private static final List<List<String>> QUOTES = new ArrayList<>();

    public static void main(String[] args) throws IOException {
        for (int promise = 0; promise <= Document.PROMISES; promise++) QUOTES.add(new ArrayList<>());
        try (DirectoryStream<Path> files = Files.newDirectoryStream(TESTS, "*.java")) {
            for (Path file : files) gather(Files.readString(file));
        }
        for (int promise = 0; promise <= Document.PROMISES; promise++) {
            String left = unquoted(promise);
            DUE.holds("promise " + promise + " has a test of each sentence; without: " + left, !left.matches(".*[A-Za-z0-9].*"));
        }
        DUE.end();
    }

    private static void gather(String source) {
        Matcher found = ABOUT.matcher(source);
        while (found.find()) {
            String quote = found.group(2).replaceAll("\"\\s*\\+ \"", "");
            QUOTES.get(Integer.parseInt(found.group(1))).add(quote.substring(1, quote.length() - 1));
        }
    }

    // Longest first, so that a short quote does not break up a longer one.
    private static String unquoted(int promise) {
        List<String> quotes = QUOTES.get(promise);
        quotes.sort(Comparator.comparing(String::length).reversed());
        String text = bare(promise);
        for (String quote : quotes) text = text.replace(quote, " ");
        return Document.oneLine(text);
    }

    // Without headings, signatures, the face (FaceTest has it) and the lines that tell which calls belong together.
    private static String bare(int promise) {
        return Document.section(promise).replaceAll("```java.*?```", "").replaceAll("```text", "").replaceAll("```", "")
            .replaceAll("Ahead of the calls [^:]*: ---- [^.]*\\.", "").replaceAll("`[^`]*`", "")
            .replaceAll("# SharesOfSeries|## What it is|## The public face|## Terms", "");
    }
}

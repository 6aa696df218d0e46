import java.io.IOException;
import java.io.UncheckedIOException;
import java.nio.file.Files;
import java.nio.file.Path;

/** The document's own words, by promise; 0 is all that stands ahead of promise 1. Run from the project's root. */
final class Document {
    static final int PROMISES = 31;
    private static final Path PLACE = Path.of("../shared/DOC.md");
    private static final String TEXT = read();

    private Document() {
    }

    private static String read() {
        try {
            return Files.readString(PLACE);
        } catch (IOException e) {
            throw new UncheckedIOException(e);
        }
    }

    /** The text of a promise without its heading, line breaks being blanks. */
    static String section(int promise) {
        int from = promise == 0 ? 0 : TEXT.indexOf("\n", TEXT.indexOf("\n## Promise " + promise + ":") + 1);
        int to = TEXT.indexOf(promise == PROMISES ? "\n## Not promised" : "\n## Promise " + (promise + 1) + ":", from);
        return oneLine(TEXT.substring(from, to));
    }

    /** What the heading of a promise calls it: the name of its call. */
    static String name(int promise) {
        String heading = "\n## Promise " + promise + ": ";
        int from = TEXT.indexOf(heading) + heading.length();
        return TEXT.substring(from, TEXT.indexOf("\n", from)).trim();
    }

    static boolean says(int promise, String sentence) {
        return section(promise).contains(oneLine(sentence));
    }

    static String oneLine(String text) {
        return text.replaceAll("\\s+", " ").trim();
    }
}

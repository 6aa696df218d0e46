import java.io.IOException;
import java.nio.file.Files;
import java.nio.file.Path;
import java.util.List;
import java.util.regex.Matcher;
import java.util.regex.Pattern;

/** Rules of LANGUAGE.md that can be read off the text of the class. Run from the project's root. */
public final class LanguageTest {
    private static final Due DUE = new Due("LanguageTest");
    private static final Path SOURCE = Path.of("src/main/java/SharesOfSeries.java");
    private static final List<String> WORDS = List.of("throw", "throws", "try", "catch", "finally", "synchronized", "assert",
        "package", "protected", "volatile", "transient", "native", "Random", "Thread", "Object", "Throwable", "Exception",
        "double", "float");

    public static void main(String[] args) throws IOException {
        String code = withoutComments(Files.readString(SOURCE));
        for (String word : WORDS) {
            DUE.holds("no " + word, !Pattern.compile("\\b" + word + "\\b").matcher(code).find());
        }
        DUE.holds("no lambda", !code.contains("->"));
        DUE.holds("no method reference", !code.contains("::"));
        DUE.holds("no Exact function", !code.contains("Exact("));
        DUE.holds("no static block", !Pattern.compile("\\bstatic\\s*\\{").matcher(code).find());
        DUE.holds("no endless loop", !Pattern.compile("while\\s*\\(\\s*true|for\\s*\\(\\s*;\\s*;").matcher(code).find());
        imports(code);
        library(code);
        shortMethods(code);
        DUE.end();
    }

    private static String withoutComments(String text) {
        return text.replaceAll("(?s)/\\*.*?\\*/", "").replaceAll("//[^\n]*", "");
    }

    private static void imports(String code) {
        Matcher found = Pattern.compile("import\\s+([^;]+);").matcher(code);
        while (found.find()) DUE.holds("import " + found.group(1), found.group(1).equals("java.util.Arrays"));
    }

    private static void library(String code) {
        Matcher found = Pattern.compile("\\b(Math|Arrays|System|Integer|Long|String)\\.(\\w+)").matcher(code);
        List<String> allowed = List.of("Math.min", "Math.max", "Arrays.fill", "System.arraycopy");
        while (found.find()) DUE.holds(found.group() + " is in the library", allowed.contains(found.group()));
    }

    private static void shortMethods(String code) {
        int start = -1;
        int number = 0;
        for (String line : code.split("\n")) {
            number++;
            if (line.matches("(    |        )\\w[^=;]*\\) \\{")) {
                start = number;
                DUE.holds("seven parameters at most: " + line, line.chars().filter(c -> c == ',').count() < 7);
            }
            if (start > 0 && line.matches("    }|        }")) {
                DUE.holds("line " + start + ": sixty lines at most", number - start <= 60);
            }
        }
        DUE.holds("methods were found", start > 0);
    }
}

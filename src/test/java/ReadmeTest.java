import java.io.IOException;
import java.lang.reflect.Field;
import java.lang.reflect.Method;
import java.lang.reflect.Modifier;
import java.net.URL;
import java.net.URLClassLoader;
import java.nio.file.DirectoryStream;
import java.nio.file.Files;
import java.nio.file.Path;
import java.util.ArrayList;
import java.util.List;
import java.util.Map;
import java.util.TreeMap;
import java.util.regex.Matcher;
import java.util.regex.Pattern;
import javax.tools.ToolProvider;

/** What README.md shows as use is run, and the answers beside the calls are compared. Run from the project's root. */
public final class ReadmeTest {
    private static final Due DUE = new Due("ReadmeTest");
    private static final Path README = Path.of("README.md");
    private static final Path TESTS = Path.of("src/test/java");
    private static final Pattern CALL = Pattern.compile("(.*?)(\\bx\\.\\w+\\(.*\\));\\s*// (-?\\w+)(?::.*)?");
    private static final Pattern ROW = Pattern.compile("\\| (-\\d+) \\| `?([A-Z]+)`? \\| .*");
    private static final String[] CAUSES = {"NULL", "INDEX", "SIZE", "CAST", "ZERO"};

    /** One answer of the README's run: the call, what stands beside it, what the class answered. */
    private record Answer(String call, long want, long got) {
    }

    public static void main(String[] args) throws Exception {
        List<String> lines = Files.readAllLines(README);
        List<Answer> answers = run(program(lines));
        for (Answer each : answers) DUE.is(each.call(), each.want(), each.got());
        everyCallIsShown(answers);
        Map<Long, String> table = answersBelow0(lines);
        tableIsTheDocuments(table);
        everyAnswerIsShown(table, answers);
        testsAreTold(lines);
        DUE.end();
    }

    // The java blocks as one method, each call wrapped in a function that keeps what it answered.
    private static String program(List<String> lines) {
        StringBuilder text = new StringBuilder("public final class ReadmeUse {\n"
            + "public static void run(java.util.List<Object[]> answers) {\n");
        boolean inside = false;
        for (int k = 0; k < lines.size(); k++) {
            String line = lines.get(k);
            if (line.startsWith("```")) {
                inside = line.equals("```java");
            } else if (inside) {
                text.append(line.contains("x.") ? wrapped(line, k + 1) : line).append('\n');
            }
        }
        return text.append("}\n").append(keeper("int")).append(keeper("long")).append("}\n").toString();
    }

    private static String wrapped(String line, int number) {
        Matcher found = CALL.matcher(line);
        boolean told = found.matches();
        DUE.holds("README.md line " + number + " is one call with its answer: " + line, told);
        if (!told) return line;
        String call = found.group(2);
        return found.group(1) + "kept(answers, \"line " + number + ", " + call + "\", " + wanted(found.group(3)) + ", " + call + ");";
    }

    private static String wanted(String answer) {
        if (answer.matches("[A-Z]+")) return "SharesOfSeries." + answer;
        return answer.matches("-?\\d+") ? answer + "L" : answer;
    }

    private static String keeper(String type) {
        return "private static " + type + " kept(java.util.List<Object[]> answers, String call, long want, " + type + " got) {\n"
            + "answers.add(new Object[] {call, want, (long) got});\nreturn got;\n}\n";
    }

    private static List<Answer> run(String program) throws Exception {
        Path folder = Files.createTempDirectory("readme");
        Path source = folder.resolve("ReadmeUse.java");
        Files.writeString(source, program);
        int exit = ToolProvider.getSystemJavaCompiler().run(null, null, null, "-encoding", "UTF-8", "-cp",
            System.getProperty("java.class.path"), "-d", folder.toString(), source.toString());
        DUE.is("what README.md shows compiles", 0, exit);
        List<Object[]> kept = new ArrayList<>();
        if (exit == 0) {
            try (URLClassLoader loader = new URLClassLoader(new URL[] {folder.toUri().toURL()})) {
                loader.loadClass("ReadmeUse").getMethod("run", List.class).invoke(null, kept);
            }
        }
        remove(folder);
        List<Answer> answers = new ArrayList<>();
        for (Object[] each : kept) answers.add(new Answer((String) each[0], (Long) each[1], (Long) each[2]));
        return answers;
    }

    private static void remove(Path folder) throws IOException {
        try (DirectoryStream<Path> files = Files.newDirectoryStream(folder)) {
            for (Path file : files) Files.delete(file);
        }
        Files.delete(folder);
    }

    private static void everyCallIsShown(List<Answer> answers) {
        for (Method each : SharesOfSeries.class.getDeclaredMethods()) {
            if (!Modifier.isPublic(each.getModifiers())) continue;
            String call = " x." + each.getName() + "(";
            DUE.holds("README.md shows" + call + "..)", answers.stream().anyMatch(a -> a.call().contains(call)));
        }
    }

    private static Map<Long, String> answersBelow0(List<String> lines) {
        Map<Long, String> table = new TreeMap<>();
        for (String line : lines) {
            Matcher found = ROW.matcher(line);
            if (found.matches()) table.put(Long.parseLong(found.group(1)), found.group(2));
        }
        return table;
    }

    private static void tableIsTheDocuments(Map<Long, String> table) throws IllegalAccessException {
        Map<Long, String> due = new TreeMap<>();
        for (Field each : SharesOfSeries.class.getFields()) due.put((long) each.getInt(null), each.getName());
        for (int c = 1; c <= CAUSES.length; c++) {
            due.put(-10L - c, CAUSES[c - 1]);
            DUE.holds("the document's cause " + c, Document.says(0, c + " " + CAUSES[c - 1] + " ("));
        }
        DUE.holds("README.md's answers below 0 " + table + " are " + due, table.equals(due));
    }

    private static void everyAnswerIsShown(Map<Long, String> table, List<Answer> answers) {
        for (long below : table.keySet()) {
            DUE.holds("README.md shows a call that answers " + below, answers.stream().anyMatch(a -> a.want() == below));
        }
    }

    private static void testsAreTold(List<String> lines) throws IOException {
        DUE.holds("README.md tells the command that runs all tests", lines.contains("    .ci/run"));
        String text = String.join("\n", lines);
        try (DirectoryStream<Path> files = Files.newDirectoryStream(TESTS, "*.java")) {
            for (Path file : files) {
                String name = file.getFileName().toString().replace(".java", "");
                DUE.holds("README.md tells of " + name, text.contains("`" + name + "`"));
            }
        }
    }
}

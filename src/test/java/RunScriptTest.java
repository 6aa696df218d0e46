import java.io.IOException;
import java.io.UncheckedIOException;
import java.nio.charset.StandardCharsets;
import java.nio.file.Files;
import java.nio.file.Path;
import java.nio.file.StandardCopyOption;
import java.util.Comparator;
import java.util.List;
import java.util.stream.Stream;

/** .ci/run runs the tests of both folders and fails if one fails or does not compile. Run from the project's root. */
public final class RunScriptTest {
    private static final Due DUE = new Due("RunScriptTest");
    private static final Path SCRIPT = Path.of(".ci/run");
    private static final String PASSES = "System.out.println(\"ran NAME\");";
    private static final String FAILS = PASSES + " System.exit(1);";
    private static final String THROWS = PASSES + " throw new IllegalStateException();";
    private static final String NO_JAVA = PASSES + " int;";
    private static final String LACKS_A_CALL = PASSES + " new SharesOfSeries().lacking();";

    /** A small project with one test in each folder (none where its text is null), and what the script makes of it. */
    private record Case(String what, String own, String shared, boolean passes) {
    }

    private record Outcome(Case tried, int exit, String told) {
    }

    private static final List<Case> CASES = List.of(
        new Case("both pass", PASSES, PASSES, true),
        new Case("own fails", FAILS, PASSES, false), new Case("shared fails", PASSES, FAILS, false),
        new Case("own throws", THROWS, PASSES, false), new Case("shared throws", PASSES, THROWS, false),
        new Case("own is no Java", NO_JAVA, PASSES, false), new Case("shared is no Java", PASSES, NO_JAVA, false),
        new Case("own lacks a call", LACKS_A_CALL, PASSES, false), new Case("shared lacks a call", PASSES, LACKS_A_CALL, false),
        new Case("no own test", null, PASSES, false), new Case("no shared test", PASSES, null, false));

    public static void main(String[] args) {
        DUE.holds(".ci/run can be executed", Files.isExecutable(SCRIPT));
        List<Outcome> outcomes = CASES.parallelStream().map(RunScriptTest::outcome).toList();
        for (Outcome each : outcomes) {
            Case tried = each.tried();
            DUE.holds(tried.what() + ": exit code " + each.exit() + " is right", tried.passes() == (each.exit() == 0));
            ran(each, tried.own(), "Own");
            ran(each, tried.shared(), "Shared");
        }
        DUE.end();
    }

    // A line of its own, because javac tells the source of what does not compile.
    private static void ran(Outcome outcome, String body, String name) {
        boolean compiles = body != null && !body.equals(NO_JAVA) && !body.equals(LACKS_A_CALL);
        DUE.holds(outcome.tried().what() + ": " + name + " ran as it can",
            compiles == outcome.told().lines().anyMatch(("ran " + name)::equals));
    }

    private static Outcome outcome(Case tried) {
        try {
            Path room = Files.createTempDirectory("run");
            try {
                lay(room, tried);
                return run(room, tried);
            } finally {
                remove(room);
            }
        } catch (IOException e) {
            throw new UncheckedIOException(e);
        }
    }

    private static void lay(Path room, Case tried) throws IOException {
        Path script = room.resolve("main").resolve(SCRIPT);
        Files.createDirectories(script.getParent());
        Files.copy(SCRIPT, script, StandardCopyOption.COPY_ATTRIBUTES);
        write(room.resolve("main/src/main/java/SharesOfSeries.java"), "public final class SharesOfSeries { }");
        Files.createDirectories(room.resolve("main/src/test/support"));
        writeTest(room.resolve("main/src/test/java"), "Own", tried.own());
        writeTest(room.resolve("shared/tests"), "Shared", tried.shared());
    }

    private static void writeTest(Path folder, String name, String body) throws IOException {
        Files.createDirectories(folder);
        if (body == null) return;
        String main = "public static void main(String[] args) { " + body.replace("NAME", name) + " }";
        write(folder.resolve(name + ".java"), "public final class " + name + " { " + main + " }");
    }

    private static void write(Path file, String text) throws IOException {
        Files.createDirectories(file.getParent());
        Files.writeString(file, text);
    }

    private static Outcome run(Path room, Case tried) throws IOException {
        Process started = new ProcessBuilder(room.resolve("main").resolve(SCRIPT).toString()).redirectErrorStream(true).start();
        String told = new String(started.getInputStream().readAllBytes(), StandardCharsets.UTF_8);
        try {
            return new Outcome(tried, started.waitFor(), told);
        } catch (InterruptedException e) {
            throw new IllegalStateException(e);
        }
    }

    private static void remove(Path room) throws IOException {
        try (Stream<Path> all = Files.walk(room)) {
            for (Path each : all.sorted(Comparator.reverseOrder()).toList()) Files.delete(each);
        }
    }
}

import java.io.IOException;
import java.nio.charset.StandardCharsets;
import java.nio.file.Files;
import java.nio.file.Path;
import java.util.Comparator;
import java.util.List;
import java.util.stream.Stream;

/** Runs .ci/run on small projects of its own: it passes where all holds, and fails where one thing does not. */
public final class RunTest {
    private static final String GOOD = "public final class %s { public static void main(String[] args) { } }";
    private static final String BAD =
            "public final class %s { public static void main(String[] args) { System.exit(1); } }";
    private static final String THROWING =
            "public final class %s { public static void main(String[] args) { throw new IllegalStateException(); } }";
    private static final String NO_JAVA = "public final class %s {";
    private static final String NEEDS_TESTS = "public final class %s { GoodTest x; }";
    private static final String WARNED =
            "public final class %s { java.util.List<String> x = new java.util.ArrayList(); }";

    private static final String MAIN = "project/src/main/java/RingDomino.java";
    private static final String EXAMPLE = "project/src/example/java/Example.java";
    private static final String OWN = "project/src/test/java/GoodTest.java";
    private static final String SHARED = "shared/tests/Shared.java";

    /** One small project: a file of it that is not good, and what stands there; or that none is there. */
    private record Project(String file, String text, boolean passes) {
    }

    private static final List<Project> PROJECTS = List.of(
            new Project(MAIN, GOOD, true),
            new Project(MAIN, NEEDS_TESTS, false),
            new Project(MAIN, WARNED, false),
            new Project(EXAMPLE, NO_JAVA, false),
            new Project(OWN, BAD, false),
            new Project(OWN, THROWING, false),
            new Project(OWN, NO_JAVA, false),
            new Project("project/src/test/java/BadTest.java", BAD, false),
            new Project(SHARED, BAD, false),
            new Project(SHARED, NO_JAVA, false),
            new Project(SHARED, "", false),
            new Project("shared/tests/more/Other.java", BAD, false));

    public static void main(String[] args) {
        // Each project takes seconds of waiting for compilers, so they run beside each other.
        List<Integer> codes = PROJECTS.parallelStream().map(RunTest::exitCode).toList();
        for (int n = 0; n < codes.size(); n++) {
            Project one = PROJECTS.get(n);
            String what = "the exit code of .ci/run with " + one.file() + " as \"" + one.text() + "\"";
            Check.equal(what, codes.get(n), one.passes() ? 0 : 1);
        }
        Check.close("RunTest");
    }

    private static int exitCode(Project project) {
        try {
            Path place = Files.createTempDirectory("run");
            try {
                for (String file : List.of(MAIN, EXAMPLE, OWN, SHARED)) {
                    write(place.resolve(file), GOOD);
                }
                write(place.resolve(project.file()), project.text());
                Path script = place.resolve("project/.ci/run");
                Files.createDirectories(script.getParent());
                Files.copy(Path.of(".ci/run"), script);
                return run(script, place);
            } finally {
                delete(place);
            }
        } catch (IOException | InterruptedException e) {
            return -1;
        }
    }

    private static void write(Path file, String text) throws IOException {
        Files.createDirectories(file.getParent());
        String name = file.getFileName().toString();
        if (text.isEmpty()) {
            Files.delete(file);
        } else {
            Files.writeString(file, text.replace("%s", name.substring(0, name.indexOf('.'))), StandardCharsets.UTF_8);
        }
    }

    /** The script has to find its own place, wherever it is called. */
    private static int run(Path script, Path place) throws IOException, InterruptedException {
        Process process = new ProcessBuilder("bash", script.toAbsolutePath().toString()).directory(place.toFile())
                .redirectErrorStream(true).start();
        process.getInputStream().readAllBytes();
        return process.waitFor();
    }

    private static void delete(Path place) throws IOException {
        try (Stream<Path> paths = Files.walk(place)) {
            for (Path path : paths.sorted(Comparator.reverseOrder()).toList()) {
                Files.delete(path);
            }
        }
    }
}

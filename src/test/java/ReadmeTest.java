import java.io.IOException;
import java.lang.reflect.InvocationTargetException;
import java.lang.reflect.Method;
import java.lang.reflect.Modifier;
import java.nio.charset.StandardCharsets;
import java.nio.file.Files;
import java.nio.file.Path;
import java.util.ArrayList;
import java.util.Comparator;
import java.util.List;
import java.util.TreeSet;
import java.util.regex.Matcher;
import java.util.regex.Pattern;
import java.util.stream.Stream;

/** What README.md says: its commands and what they print, its calls and their answers, its files and tests. */
public final class ReadmeTest {
    private static final Path EXAMPLE = Path.of("src/example/java/Example.java");
    private static final Pattern BLOCK = Pattern.compile("(?ms)^```(\\w*)\n(.*?)^```$");
    private static final Pattern NEW = Pattern.compile("RingDomino game = new RingDomino\\(\\);");
    private static final Pattern FEED = Pattern.compile("Example\\.feed\\(game, (?:Example\\.GAME|\"([^\"]*)\")\\);");
    private static final Pattern CALL = Pattern.compile("game\\.(\\w+)\\(([^()]*)\\); *// ([^:]*)(:.*)?");

    private static final TreeSet<String> shown = new TreeSet<>();
    private static RingDomino game = new RingDomino();
    private static int calls = 0;

    public static void main(String[] args) throws IOException, InterruptedException {
        String readme = Files.readString(Path.of("README.md"), StandardCharsets.UTF_8);
        blocks(readme);
        allCallsAreShown();
        files(readme);
        tests(readme);
        Check.close("ReadmeTest");
    }

    private static void same(String what, String got, String due) {
        Check.holds(what + " is \"" + due + "\", not \"" + got + "\",", got.equals(due));
    }

    // ---- blocks

    private static void blocks(String readme) throws IOException, InterruptedException {
        TreeSet<String> kinds = new TreeSet<>();
        String printed = "";
        Matcher block = BLOCK.matcher(readme);
        while (block.find()) {
            String text = block.group(2);
            kinds.add(block.group(1));
            switch (block.group(1)) {
                case "game":
                    same("the game shown", text, Example.GAME);
                    break;
                case "sh":
                    printed = printedBy(text);
                    break;
                case "output":
                    same("what the commands print", printed, text);
                    break;
                case "java":
                    java(text);
                    break;
                default:
                    Check.holds("a block is of a known kind, not " + block.group(1) + ",", false);
                    break;
            }
        }
        same("the kinds of blocks", String.join(" ", kinds), "game java output sh");
        Check.equal("lines that open or close a block", readme.split("(?m)^```", -1).length - 1,
                2 * BLOCK.matcher(readme).results().count());
    }

    /** Runs commands where the sources are and nothing else; .ci/run is looked at by RunTest. */
    private static String printedBy(String commands) throws IOException, InterruptedException {
        if (commands.equals(".ci/run\n")) {
            return "";
        }
        Path place = Files.createTempDirectory("readme");
        try {
            for (Path source : List.of(Path.of("src/main/java/RingDomino.java"), EXAMPLE)) {
                Files.createDirectories(place.resolve(source).getParent());
                Files.copy(source, place.resolve(source));
            }
            Process process = new ProcessBuilder("bash", "-e", "-c", commands).directory(place.toFile())
                    .redirectError(ProcessBuilder.Redirect.INHERIT).start();
            String printed = new String(process.getInputStream().readAllBytes(), StandardCharsets.UTF_8);
            Check.equal("the exit code of the commands " + commands, process.waitFor(), 0);
            return printed;
        } finally {
            delete(place);
        }
    }

    private static void delete(Path place) throws IOException {
        try (Stream<Path> paths = Files.walk(place)) {
            for (Path path : paths.sorted(Comparator.reverseOrder()).toList()) {
                Files.delete(path);
            }
        }
    }

    private static void java(String text) throws IOException {
        if (text.startsWith("static ")) {
            String example = Files.readString(EXAMPLE, StandardCharsets.UTF_8);
            Check.holds("Example.java has the method shown,", example.contains(text.indent(4)));
            return;
        }
        for (String line : text.split("\n")) {
            line(line);
        }
    }

    // ---- calls

    private static void line(String line) {
        Matcher fed = FEED.matcher(line);
        Matcher call = CALL.matcher(line);
        if (NEW.matcher(line).matches()) {
            game = new RingDomino();
            calls = 0;
            shown.add("RingDomino");
        } else if (fed.matches()) {
            String text = fed.group(1) == null ? Example.GAME : fed.group(1);
            Example.feed(game, text);
            calls += (text.length() + 19) / 20 + 1;
        } else if (call.matches()) {
            shown.add(call.group(1));
            calls++;
            same(line, answer(call.group(1), call.group(2)), call.group(3).trim());
        } else {
            Check.holds("a line is a call with its answer, not " + line + ",", false);
        }
        Check.holds("an object is called 512 times at most", calls <= 512);
    }

    private static String answer(String name, String arguments) {
        List<Object> numbers = new ArrayList<>();
        for (String argument : arguments.split(", ")) {
            if (!argument.isEmpty()) {
                numbers.add(Integer.decode(argument));
            }
        }
        for (Method method : RingDomino.class.getMethods()) {
            if (method.getName().equals(name) && method.getParameterCount() == numbers.size()) {
                return answer(method, numbers.toArray());
            }
        }
        return "no such method";
    }

    private static String answer(Method method, Object[] numbers) {
        try {
            return String.valueOf(method.invoke(game, numbers));
        } catch (InvocationTargetException e) {
            return "throws " + e.getCause().getClass().getSimpleName();
        } catch (IllegalAccessException e) {
            return "hidden";
        }
    }

    private static void allCallsAreShown() {
        Check.holds("the page shows the constructor", shown.contains("RingDomino"));
        for (Method method : RingDomino.class.getDeclaredMethods()) {
            if (Modifier.isPublic(method.getModifiers())) {
                Check.holds("the page shows " + method.getName(), shown.contains(method.getName()));
            }
        }
    }

    // ---- files and tests

    /** The page names files by their place, between back quotes, and classes by their name. */
    private static void files(String readme) {
        Matcher named = Pattern.compile("`([./\\w]+/[./\\w]+)`").matcher(readme);
        int files = 0;
        while (named.find()) {
            // What lies beside the checkout is not ours to promise.
            boolean shared = named.group(1).startsWith("../shared");
            Check.holds(named.group(1) + " is there", shared || Files.exists(Path.of(named.group(1))));
            files++;
        }
        Check.holds("files are named", files > 3);
        for (Class<?> inside : RingDomino.class.getDeclaredClasses()) {
            String name = inside.getSimpleName();
            boolean small = name.equals("Kind") || name.equals("Order");
            Check.holds("the page tells of " + name, small || readme.contains("`" + name + "`"));
        }
    }

    private static void tests(String readme) throws IOException {
        TreeSet<String> listed = new TreeSet<>();
        Matcher test = Pattern.compile("`(\\w+Test)`").matcher(readme);
        while (test.find()) {
            listed.add(test.group(1));
        }
        TreeSet<String> found = new TreeSet<>();
        try (Stream<Path> paths = Files.list(Path.of("src/test/java"))) {
            for (Path path : paths.toList()) {
                String name = path.getFileName().toString();
                if (name.endsWith("Test.java")) {
                    found.add(name.substring(0, name.length() - ".java".length()));
                }
            }
        }
        same("the list of tests", listed.toString(), found.toString());
    }
}

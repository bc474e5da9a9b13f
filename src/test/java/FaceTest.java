import java.io.IOException;
import java.lang.reflect.Constructor;
import java.lang.reflect.Field;
import java.lang.reflect.Method;
import java.lang.reflect.Modifier;
import java.nio.charset.StandardCharsets;
import java.nio.file.Files;
import java.nio.file.Path;
import java.util.ArrayList;
import java.util.Arrays;
import java.util.List;
import java.util.TreeSet;
import java.util.regex.Matcher;
import java.util.regex.Pattern;

/** The face of the document, and what of the language's rules can be seen in the source's words. */
public final class FaceTest {
    private static final String[] FACE = {
        "int feed(int,int,int,int,int) throws IllegalStateException",
        "int trim(int) throws IllegalArgumentException", "int teach()", "int errorAt()", "int columns()",
        "int rows()", "int tiles()", "int rounds()", "int placedTiles()", "int matches()", "int points()",
        "int rings()", "int groups()", "boolean hasTile(int) throws IndexOutOfBoundsException",
        "int tileAt(int) throws IndexOutOfBoundsException,IllegalStateException",
        "int numberAt(int,int) throws IndexOutOfBoundsException,IllegalStateException",
        "int matchesOf(int) throws IndexOutOfBoundsException", "boolean isRing(int) throws IndexOutOfBoundsException",
        "boolean isPlaced(int) throws IndexOutOfBoundsException",
        "int cellOf(int) throws IndexOutOfBoundsException,IllegalStateException",
        "int turnOf(int) throws IndexOutOfBoundsException,IllegalStateException",
        "boolean fits(int,int,int) throws IndexOutOfBoundsException",
        "int edgeAgainst(int,int,int) throws IndexOutOfBoundsException",
        "int waysOf(int) throws IndexOutOfBoundsException", "boolean isLeftover(int) throws IndexOutOfBoundsException",
        "int looksToProve(int) throws IndexOutOfBoundsException,IllegalStateException",
        "int putTile(int,int,int) throws IndexOutOfBoundsException,IllegalStateException",
        "int takeTile(int) throws IndexOutOfBoundsException,IllegalStateException",
        "int fitTile(int) throws IndexOutOfBoundsException,IllegalStateException",
        "int playRounds(int) throws IllegalArgumentException", "int pointsAfter(int) throws IllegalArgumentException",
        "int roundsUntilRing()", "int bestCell(int) throws IndexOutOfBoundsException,IllegalStateException",
        "int bestTurn(int) throws IndexOutOfBoundsException,IllegalStateException", "int bestTile()",
        "double meanMatch()", "long digest()",
    };

    private static final String[] SECTIONS = {
        "Ahead of the calls `feed`, `trim`, `teach`, `errorAt` the interface says: ---- the language.",
        "Ahead of the calls `columns`, `rows`, `tiles`, `rounds`, `placedTiles`, `matches`, `points`, `rings`, `groups`"
                + " the interface says: ---- the game.",
        "Ahead of the calls `hasTile`, `tileAt`, `numberAt`, `matchesOf`, `isRing` the interface says: ---- cells.",
        "Ahead of the calls `isPlaced`, `cellOf`, `turnOf`, `fits`, `edgeAgainst`, `waysOf`, `isLeftover`,"
                + " `looksToProve` the interface says: ---- tiles.",
        "Ahead of the calls `putTile`, `takeTile`, `fitTile` the interface says: ---- by hand.",
        "Ahead of the calls `playRounds`, `pointsAfter`, `roundsUntilRing`, `bestCell`, `bestTurn`, `bestTile`,"
                + " `meanMatch`, `digest` the interface says: ---- rounds and what would be.",
    };

    public static void main(String[] args) throws IOException {
        face();
        members();
        String source = Files.readString(Path.of("src/main/java/RingDomino.java"), StandardCharsets.UTF_8);
        source(source);
        sections(source);
        Check.close("FaceTest");
    }

    /** The source bears the document's headings, and each call stands below its own one, in the document's order. */
    private static void sections(String source) {
        int at = 0;
        int calls = 0;
        for (String section : SECTIONS) {
            Check.sentence(section);
            String heading = section.substring(section.indexOf("----"), section.length() - 1);
            at = behind(source, at, "// " + heading + "\n");
            Matcher call = Pattern.compile("`(\\w+)`").matcher(section);
            while (call.find()) {
                at = behind(source, at, "public \\w+ " + call.group(1) + "\\(");
                calls++;
            }
        }
        Check.equal("calls below a heading", calls, FACE.length);
    }

    private static int behind(String source, int at, String words) {
        Matcher found = Pattern.compile(words).matcher(source);
        boolean good = found.find(at);
        Check.holds("the next of the source's calls and headings is " + words.trim(), good);
        return good ? found.end() : at;
    }

    private static String names(Class<?>[] types) {
        List<String> names = new ArrayList<>();
        for (Class<?> type : types) {
            names.add(type.getSimpleName());
        }
        return String.join(",", names);
    }

    private static void face() {
        TreeSet<String> found = new TreeSet<>();
        for (Method method : RingDomino.class.getDeclaredMethods()) {
            if (!Modifier.isPrivate(method.getModifiers()) && !method.isSynthetic()) {
                String thrown = names(method.getExceptionTypes());
                found.add(method.getReturnType().getSimpleName() + " " + method.getName() + "("
                        + names(method.getParameterTypes()) + ")" + (thrown.isEmpty() ? "" : " throws " + thrown));
                Check.equal("modifiers of " + method.getName(), method.getModifiers(), Modifier.PUBLIC);
            }
        }
        TreeSet<String> due = new TreeSet<>(Arrays.asList(FACE));
        Check.equal("the face's methods", due.size(), 37);
        for (String method : due) {
            Check.holds("the face has " + method, found.contains(method));
        }
        for (String method : found) {
            Check.holds("the document has " + method, due.contains(method));
        }
    }

    private static void members() {
        Check.equal("the class's modifiers", RingDomino.class.getModifiers(), Modifier.PUBLIC | Modifier.FINAL);
        Constructor<?>[] constructors = RingDomino.class.getDeclaredConstructors();
        Check.equal("constructors", constructors.length, 1);
        Check.equal("the constructor's parameters", constructors[0].getParameterCount(), 0);
        Check.equal("the constructor's modifiers", constructors[0].getModifiers(), Modifier.PUBLIC);
        TreeSet<String> publics = new TreeSet<>();
        for (String method : FACE) {
            publics.add(method.substring(method.indexOf(' ') + 1, method.indexOf('(')));
        }
        classWithin(RingDomino.class, publics);
        Class<?>[] inside = RingDomino.class.getDeclaredClasses();
        Check.holds("at most twelve classes", inside.length <= 12);
        for (Class<?> one : inside) {
            Check.holds(one + " is static", Modifier.isStatic(one.getModifiers()));
            Check.fails(one + " is public", Modifier.isPublic(one.getModifiers()));
            classWithin(one, publics);
        }
    }

    private static void classWithin(Class<?> one, TreeSet<String> publics) {
        int fields = 0;
        for (Field field : one.getDeclaredFields()) {
            boolean fixed = Modifier.isStatic(field.getModifiers());
            fields += fixed ? 0 : 1;
            Check.holds(field + " is final if it is static", !fixed || Modifier.isFinal(field.getModifiers()));
            Check.holds(field + " is not on the face", one != RingDomino.class
                    || Modifier.isPrivate(field.getModifiers()));
        }
        Check.holds("at most twenty fields in " + one, fields <= 20);
        for (Method method : one.getDeclaredMethods()) {
            Check.holds("at most seven parameters of " + method, method.getParameterCount() <= 7);
            Check.holds(method + " has a name of its own", Modifier.isPublic(method.getModifiers())
                    || !publics.contains(method.getName()));
        }
    }

    /** Rule 4: only what the language lists, and Arrays over arrays of numbers alone. */
    private static void library(String code) {
        List<String> listed = List.of("Arrays.fill", "Math.max", "Math.min", "Math.floorMod", "Integer.bitCount",
                "System.arraycopy");
        Matcher calls = Pattern.compile("\\b(Arrays|Math|Integer|Long|System|String|List)\\.\\w+").matcher(code);
        while (calls.find()) {
            Check.holds("the language lists " + calls.group(), listed.contains(calls.group()));
        }
        Matcher filled = Pattern.compile("Arrays\\.fill\\((\\w+)").matcher(code);
        while (filled.find()) {
            Check.holds(filled.group(1) + " is an array of numbers",
                    Pattern.compile("\\bint\\[\\] " + filled.group(1) + "\\b").matcher(code).find());
        }
    }

    private static void source(String source) {
        String code = source.replaceAll("(?s)/\\*.*?\\*/", "").replaceAll("//[^\n]*", "")
                .replaceAll("\"[^\"\n]*\"", "\"\"");
        Matcher imports = Pattern.compile("import ([^;]*);").matcher(code);
        while (imports.find()) {
            Check.equal("import of " + imports.group(1), imports.group(1).equals("java.util.Arrays") ? 1 : 0, 1);
        }
        for (String word : new String[] {"package", "synchronized", "assert", "finally", "try", "catch", "goto", "var",
            "instanceof", "System.out", "System.nanoTime", "Thread", "hashCode", "toString", "protected", "native"}) {
            Check.fails("the word " + word, Pattern.compile("\\b" + Pattern.quote(word) + "\\b").matcher(code).find());
        }
        for (String sign : new String[] {"->", "::", "Exact(", "static {"}) {
            Check.fails("the sign " + sign, code.contains(sign));
        }
        library(code);
        Matcher thrown = Pattern.compile("throw new (\\w+)").matcher(code);
        while (thrown.find()) {
            Check.holds("throw of " + thrown.group(1), List.of("IllegalStateException", "IllegalArgumentException",
                    "IndexOutOfBoundsException").contains(thrown.group(1)));
        }
        int longest = 0;
        String[] lines = source.split("\n");
        for (int begin = 0; begin < lines.length; begin++) {
            if (lines[begin].matches("( {4}| {8})[^ /].*\\).*\\{")) {
                String close = lines[begin].replaceAll("[^ ].*", "") + "}";
                int end = begin;
                while (end < lines.length - 1 && !lines[end].startsWith(close)) {
                    end++;
                }
                longest = Math.max(longest, end - begin + 1);
            }
        }
        Check.holds("methods of at most sixty lines, not " + longest, longest <= 60);
    }
}

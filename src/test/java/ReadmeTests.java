import java.lang.reflect.Method;
import java.lang.reflect.Modifier;
import java.nio.file.Files;
import java.nio.file.Path;
import java.util.regex.Matcher;
import java.util.regex.Pattern;

/** What README.md shows holds: its example, its text of pieces, and its names of calls. */
public final class ReadmeTests {
    public static void main(String[] args) throws Exception {
        String page = Files.readString(Path.of("README.md"));
        everyCallIsNamed(page);
        exampleIsTheOneBelow(page);
        example();
        textOfPieces(page);
        Check.end("ReadmeTests");
    }

    private static void everyCallIsNamed(String page) {
        for (Method method : ScrollPieces.class.getDeclaredMethods()) {
            if (Modifier.isPublic(method.getModifiers())) {
                Matcher m = Pattern.compile("`" + method.getName() + "\\(([^)]*)\\)`").matcher(page);
                Check.same("README names " + method.getName(), m.find() ? 1 : 0, 1);
                int given = m.group(1).isEmpty() ? 0 : m.group(1).split(",").length;
                Check.same("README gives arguments to " + method.getName(), given, method.getParameterCount());
            }
        }
    }

    /** The first block of Java on the page, without its comments and without what takes the answers. */
    private static void exampleIsTheOneBelow(String page) throws Exception {
        String source = Files.readString(Path.of("src/test/java/ReadmeTests.java"));
        String[] parts = page.split("```java\n");
        Check.same("README has an example", parts.length, 2);
        int lines = 0;
        int from = source.indexOf("private static void example() {");
        for (String line : parts[1].substring(0, parts[1].indexOf("```")).split("\n")) {
            String call = line.replaceAll("\\s*//.*", "").replaceAll("^int \\w+ = |;$", "");
            if (call.startsWith("scroll.")) {
                int at = source.indexOf(", " + call + ", ", from);
                Check.same("README's line is tested: " + call, at > from ? 1 : 0, 1);
                from = Math.max(from, at);
                lines++;
            }
        }
        Check.same("README's calls", lines, 12);
    }

    private static void example() {
        ScrollPieces scroll = new ScrollPieces();
        int a = 0;
        int b = 1;
        Check.same("a", scroll.add(20), a);
        Check.same("b", scroll.add(15), b);
        Check.same("tear", scroll.tear(a, 1, 0, 5), 0);
        Check.same("fibre", scroll.fibre(a, 0, 7), 0);
        Check.same("hole", scroll.hole(b, 12), 1);
        Check.same("join", scroll.cost(a, b), 15);
        Check.same("back", scroll.cost(b, a), 34);
        Check.same("move", scroll.move(b, 0), 34);
        Check.same("least", scroll.order(), 15);
        Check.same("first", scroll.at(0), 0);
        Check.same("stand", scroll.holeOf(0, 0), 32);
        Check.same("saved states", scroll.count(9), 6);
        Check.same("saved", scroll.undo(), 5);
    }

    private static void textOfPieces(String page) {
        Matcher m = Pattern.compile("(?m)^\\d+\\[.*$").matcher(page);
        Check.same("README has a text of pieces", m.find() ? 1 : 0, 1);
        ScrollPieces x = Check.withText(m.group());
        Check.same("README's text: firstError", x.firstError(), m.group().length());
        Check.same("README's text: load", x.load(), 2);
        Check.same("README's text: pieces", Check.piece(x, 0) + ";" + Check.piece(x, 1), m.group());
    }
}

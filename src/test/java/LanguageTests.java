import java.lang.reflect.Method;
import java.nio.file.Files;
import java.nio.file.Path;
import java.util.Map;
import java.util.Set;
import java.util.TreeMap;
import java.util.TreeSet;
import java.util.regex.Matcher;
import java.util.regex.Pattern;

/** The file keeps to what LANGUAGE.md leaves of Java, as far as its text can tell. */
public final class LanguageTests {
    /** Words and signs that the rules leave out. */
    private static final String[] NOT_ALLOWED = {
        "->", "::", "@", "\\bpackage\\b", "\\bimport\\b", "\\btry\\b", "\\bcatch\\b", "\\bfinally\\b", "\\bassert\\b",
        "\\bsynchronized\\b", "\\bvolatile\\b", "\\btransient\\b", "\\bnative\\b", "\\bprotected\\b", "\\bvar\\b",
        "\\bstatic\\s*\\{", "\" \\+", "\\+ \"", "\\btrue\\)", "\\b(equals|hashCode|toString|finalize)\\("};
    private static final Set<String> LIBRARY = Set.of(
        "System.arraycopy(", "Arrays.copyOf(", "Arrays.copyOfRange(", "Arrays.fill(");
    private static final Set<String> EXCEPTIONS = Set.of(
        "IllegalStateException", "IllegalArgumentException", "IndexOutOfBoundsException");
    private static final Set<String> NUMBERS = Set.of("int", "long", "short", "byte", "char", "boolean");
    private static final int MOST_LINES = 60;
    private static final int MOST_DEEP = 8;
    private static final int MOST_PARAMETERS = 7;

    public static void main(String[] args) throws Exception {
        String text = Files.readString(Path.of("src/main/java/ScrollPieces.java"));
        String code = text.replaceAll("(?s)/\\*.*?\\*/", "").replaceAll("//[^\n]*", "");
        String silent = code.replaceAll("\"[^\"\n]*\"", "\"\"");
        signs(text);
        words(code);
        library(silent);
        made(silent);
        Map<String, String> bodies = bodies(silent);
        Check.same("methods are found: digest", bodies.containsKey("digest") ? 1 : 0, 1);
        lengths(bodies);
        depths(bodies);
        parameters();
        Check.end("LanguageTests");
    }

    private static void signs(String text) {
        int strange = 0;
        for (char c : text.toCharArray()) {
            strange += c == '\n' || c >= 32 && c <= 126 ? 0 : 1;
        }
        Check.same("strange characters", strange, 0);
    }

    private static void words(String code) {
        for (String word : NOT_ALLOWED) {
            Matcher m = Pattern.compile(word).matcher(code);
            Check.same("found " + word, m.find() ? m.group() : "none", "none");
        }
    }

    /** Rule 4 has functions of Math, Integer and Long, but none of their constants. */
    private static void library(String code) {
        Matcher m = Pattern.compile("\\b[A-Z]\\w*[a-z]\\w*\\.\\w+\\(?").matcher(code);
        while (m.find()) {
            boolean function = m.group().matches("(Math|Integer|Long)\\.\\w+\\(") && !m.group().endsWith("Exact(");
            Check.same("rule 4: " + m.group(), function || LIBRARY.contains(m.group()) ? 1 : 0, 1);
        }
    }

    private static void made(String code) {
        Set<String> own = new TreeSet<>();
        for (Class<?> inside : ScrollPieces.class.getDeclaredClasses()) {
            own.add(inside.getSimpleName());
        }
        Matcher m = Pattern.compile("\\b(throw )?new (\\w+)").matcher(code);
        while (m.find()) {
            boolean fine = m.group(1) != null ? EXCEPTIONS.contains(m.group(2))
                    : own.contains(m.group(2)) || NUMBERS.contains(m.group(2));
            Check.same("made or thrown: " + m.group(), fine ? 1 : 0, 1);
        }
    }

    /** What each method holds; every method begins and ends at the indent of its class's members. */
    private static Map<String, String> bodies(String code) {
        Map<String, String> bodies = new TreeMap<>();
        Matcher m = Pattern.compile("(?sm)^( {4}| {8})[a-zS][\\w\\[\\] ]*?(\\w+)\\([^;{]*\\{$(.*?)^\\1\\}$").matcher(code);
        while (m.find()) {
            bodies.merge(m.group(2), m.group(3), String::concat);
        }
        return bodies;
    }

    private static void lengths(Map<String, String> bodies) {
        for (Map.Entry<String, String> method : bodies.entrySet()) {
            int lines = method.getValue().split("\n").length;
            Check.same("rule 11: lines of " + method.getKey(), lines <= MOST_LINES ? 1 : 0, 1);
        }
    }

    private static void depths(Map<String, String> bodies) {
        Map<String, Integer> known = new TreeMap<>();
        for (String name : bodies.keySet()) {
            int depth = depth(name, bodies, known, 0);
            Check.same("rule 11: calls of " + name + ", " + depth + " deep", depth <= MOST_DEEP ? 1 : 0, 1);
        }
    }

    /** The calls that can stand open at once, its own one too; a method's call of itself does not count. */
    private static int depth(String name, Map<String, String> bodies, Map<String, Integer> known, int open) {
        if (open > 100) {
            return open;
        }
        if (!known.containsKey(name)) {
            int deepest = 0;
            Matcher m = Pattern.compile("\\b(\\w+)\\(").matcher(bodies.get(name));
            while (m.find()) {
                if (bodies.containsKey(m.group(1)) && !m.group(1).equals(name)) {
                    deepest = Math.max(deepest, depth(m.group(1), bodies, known, open + 1));
                }
            }
            known.put(name, deepest + 1);
        }
        return known.get(name);
    }

    private static void parameters() {
        most(ScrollPieces.class);
        for (Class<?> inside : ScrollPieces.class.getDeclaredClasses()) {
            most(inside);
        }
    }

    private static void most(Class<?> type) {
        for (Method method : type.getDeclaredMethods()) {
            Check.same("rule 11: parameters of " + method, method.getParameterCount() <= MOST_PARAMETERS ? 1 : 0, 1);
        }
    }
}

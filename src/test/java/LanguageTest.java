import java.io.IOException;
import java.nio.file.Files;
import java.nio.file.Path;
import java.util.HashSet;
import java.util.Set;
import java.util.regex.Matcher;
import java.util.regex.Pattern;

/** Rules of LANGUAGE.md that can be looked up in the source of the class. */
public final class LanguageTest {
    /** What the rules leave out, each as a pattern over the source without comments and texts. */
    private static final String[] LEFT_OUT = {
        "->", "::", "\\bfinally\\b", "\\btry\\b", "\\bcatch\\b", "\\bsynchronized\\b", "\\bassert\\b", "\\bvolatile\\b", "\\bvar\\b",
        "\\w+Exact\\b", "\\bdouble\\b", "\\bfloat\\b", "\\bRandom\\b", "\\bThread\\b", "\\bObject\\b", "\\bclass\\s+\\w+\\s+extends\\b",
        "\\bSystem\\.(?!arraycopy\\b)", "\\bMath\\.(?!(abs|max|min|floorMod|floorDiv)\\b)", "\\bInteger\\.(?!bitCount\\b)", "\\bLong\\.",
        "\\bthrow\\s+(?!new NoSuchElementException\\(\\);)", "\\bprotected\\b", "\\bstatic\\s*\\{", "\\[\\]\\[\\]\\[\\]", "@",
        "\\bnew\\s+String\\b", "\\.equals\\(", "\\bwhile\\s*\\(true\\)", "\\bfor\\s*\\(;;\\)",
    };

    public static void main(String[] args) throws IOException {
        String path = System.getProperty("source", "src/main/java/GlassStreet.java");
        String raw = Files.readString(Path.of(path));
        Check.due("no sign beyond 126", true, raw.chars().allMatch(c -> c == 10 || c >= 32 && c <= 126));
        String source = bare(raw);
        for (String pattern : LEFT_OUT) {
            Matcher found = Pattern.compile(pattern).matcher(source);
            boolean isThere = found.find();
            Check.due("what the rules leave out: " + pattern + (isThere ? " in " + lineAt(source, found.start()) : ""), false, isThere);
        }
        imports(source);
        statics(source);
        methods(source);
        Check.end();
    }

    /** The source with blanks in place of comments, texts and signs; its lines stay. */
    private static String bare(String raw) {
        Matcher matcher = Pattern.compile("/\\*.*?\\*/|//[^\n]*|\"(\\\\.|[^\"\\\\])*\"|'(\\\\.|[^'\\\\])'", Pattern.DOTALL).matcher(raw);
        return matcher.replaceAll(found -> found.group().replaceAll("[^\n]", " "));
    }

    private static String lineAt(String source, int place) {
        int begin = source.lastIndexOf('\n', place) + 1;
        return source.substring(begin, source.indexOf('\n', place)).trim();
    }

    private static void imports(String source) {
        Matcher found = Pattern.compile("import ([\\w.]+);").matcher(source);
        while (found.find()) {
            Check.due("import of " + found.group(1), true, found.group(1).equals("java.util.NoSuchElementException"));
        }
    }

    private static void statics(String source) {
        Matcher found = Pattern.compile("\\bstatic\\s+(final\\s+)?(int|long|boolean|char|String)(\\[\\])?\\s+\\w+\\s*(=|;)").matcher(source);
        while (found.find()) {
            Check.due("a static field is final: " + found.group(), true, found.group(1) != null);
        }
    }

    private static void methods(String source) {
        Set<String> open = new HashSet<>();
        Set<String> hidden = new HashSet<>();
        Matcher found = Pattern.compile("\n( {4,8})((?:public |private |static |final )*)(?:(int|long|boolean|void|String)(?:\\[\\])? )"
            + "(\\w+)\\(([^)]*)\\)[^{;]*\\{").matcher(source);
        int methods = 0;
        while (found.find()) {
            methods++;
            String name = found.group(4);
            (found.group(2).contains("public") ? open : hidden).add(name);
            Check.due(name + " takes seven at most", true, found.group(5).split(",").length <= 7);
            int end = source.indexOf("\n" + found.group(1) + "}", found.end());
            long lines = source.substring(found.start() + 1, end).lines().count() + 1;
            Check.due(name + " has " + lines + " lines, sixty at most", true, lines <= 60);
        }
        Check.due("methods were found", true, methods > 100);
        hidden.retainAll(open);
        Check.due("methods inside that bear a public one's name: " + hidden, 0, hidden.size());
    }
}

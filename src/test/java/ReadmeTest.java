import java.io.IOException;
import java.lang.reflect.InvocationTargetException;
import java.lang.reflect.Method;
import java.lang.reflect.Modifier;
import java.nio.file.Files;
import java.nio.file.Path;
import java.util.HashSet;
import java.util.Set;
import java.util.regex.Matcher;
import java.util.regex.Pattern;

/** The calls that README.md shows answer what it says behind them, and it shows and lists every call there is. */
public final class ReadmeTest {
    private static final String MADE = "GlassStreet x = new GlassStreet();";
    private static final Pattern FED = Pattern.compile("feed\\(x, \"([^\"]*)\"\\);");
    private static final Pattern CALLED = Pattern.compile("x\\.(\\w+)\\(([^)]*)\\); +// (throws \\w+|true|false|-?\\d+).*");
    private static final Pattern LISTED = Pattern.compile("`(\\w+)\\(([^)]*)\\)`");

    public static void main(String[] args) throws IOException, IllegalAccessException {
        Path root = Path.of(System.getProperty("root", "."));
        String readme = Files.readString(root.resolve("README.md"));
        String[] blocks = readme.split("```java\n");
        Check.due("blocks of Java", 2, blocks.length - 1);
        if (blocks.length == 3) {
            String helper = blocks[1].substring(0, blocks[1].indexOf("```"));
            String tests = Files.readString(root.resolve("src/test/java/Check.java"));
            Check.due("how a text is fed, as the tests do it", true, tests.contains(helper));
            evening(blocks[2].substring(0, blocks[2].indexOf("```")));
        }
        table(readme);
        Check.end();
    }

    private static void evening(String lines) throws IllegalAccessException {
        Set<String> unused = names();
        GlassStreet x = null;
        for (String line : lines.split("\n")) {
            Matcher fed = FED.matcher(line);
            Matcher called = CALLED.matcher(line);
            if (line.equals(MADE)) {
                x = new GlassStreet();
            } else if (fed.matches()) {
                Check.feed(x, fed.group(1));
                unused.remove("feed");
            } else if (called.matches()) {
                Check.due(line, called.group(3), answer(x, called.group(1), called.group(2)));
                unused.remove(called.group(1));
            } else {
                Check.due("a line that is no call: " + line, true, line.isEmpty());
            }
        }
        Check.due("calls that are not shown: " + unused, 0, unused.size());
    }

    private static String answer(GlassStreet x, String name, String given) throws IllegalAccessException {
        Method method = named(name);
        Object[] all = new Object[method.getParameterCount()];
        String[] told = given.isEmpty() ? new String[0] : given.split(", ");
        Check.due("what " + name + " takes", all.length, told.length);
        for (int i = 0; i < all.length && i < told.length; i++) {
            boolean isBoolean = method.getParameterTypes()[i] == boolean.class;
            all[i] = isBoolean ? (Object) Boolean.valueOf(told[i]) : (Object) Integer.valueOf(told[i]);
        }
        try {
            return String.valueOf(method.invoke(x, all));
        } catch (InvocationTargetException thrown) {
            return "throws " + thrown.getCause().getClass().getSimpleName();
        }
    }

    private static void table(String readme) {
        Set<String> unlisted = names();
        for (String line : readme.split("\n")) {
            Matcher listed = LISTED.matcher(line);
            while (line.startsWith("| `") && listed.find()) {
                unlisted.remove(listed.group(1));
                int told = listed.group(2).isEmpty() ? 0 : listed.group(2).split(", ").length;
                Check.due("what is listed of " + listed.group(1), named(listed.group(1)).getParameterCount(), told);
            }
        }
        Check.due("calls that are not listed: " + unlisted, 0, unlisted.size());
    }

    private static Set<String> names() {
        Set<String> all = new HashSet<>();
        for (Method method : GlassStreet.class.getDeclaredMethods()) {
            if (Modifier.isPublic(method.getModifiers())) {
                all.add(method.getName());
            }
        }
        return all;
    }

    private static Method named(String name) {
        for (Method method : GlassStreet.class.getDeclaredMethods()) {
            if (method.getName().equals(name) && Modifier.isPublic(method.getModifiers())) {
                return method;
            }
        }
        throw new IllegalStateException("README.md shows a call that is not there: " + name);
    }
}

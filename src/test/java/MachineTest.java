import java.io.PrintWriter;
import java.io.StringWriter;
import java.util.ArrayList;
import java.util.HashMap;
import java.util.HashSet;
import java.util.List;
import java.util.Map;
import java.util.Set;
import java.util.TreeSet;
import java.util.regex.Matcher;
import java.util.regex.Pattern;
import java.util.spi.ToolProvider;

/** Rules of LANGUAGE.md that can be looked up in the compiled class: what it calls, how deep, and what it makes. */
public final class MachineTest {
    /** All of the library that the class calls; rule 4 leaves more. */
    private static final Set<String> LIBRARY = Set.of("java.lang.Object.<init>", "java.util.NoSuchElementException.<init>",
        "java.lang.String.length", "java.lang.String.charAt", "java.lang.String.indexOf", "java.lang.Math.abs", "java.lang.Math.max",
        "java.lang.Math.min", "java.lang.Math.floorMod", "java.lang.Integer.bitCount", "java.lang.System.arraycopy");
    private static final int DEEPEST = 8;
    /** What no method has: lambdas and joined texts, casts, locks. */
    private static final Pattern LEFT_OUT = Pattern.compile("\\b(invokedynamic|checkcast|instanceof|monitorenter|multianewarray)\\b");
    private static final Pattern MAKES = Pattern.compile("\\b(new|newarray|anewarray)\\b");

    private static final Map<String, Set<String>> CALLS = new HashMap<>();
    private static final Set<String> HIDDEN = new HashSet<>();
    private static final Set<String> MAKERS = new TreeSet<>();
    private static final Set<String> THROWERS = new TreeSet<>();

    public static void main(String[] args) {
        ToolProvider javap = ToolProvider.findFirst("javap").orElse(null);
        if (javap == null) {
            System.out.println("this machine can't tell what is in a compiled class: not looked up");
            return;
        }
        StringWriter told = new StringWriter();
        javap.run(new PrintWriter(told), new PrintWriter(told), classes().toArray(new String[0]));
        read(told.toString());
        library();
        recursion();
        for (String method : CALLS.keySet()) {
            int deep = deepest(method, new HashSet<>());
            Check.due(method + " goes " + deep + " calls deep, eight at most", true, deep <= DEEPEST);
        }
        for (String maker : MAKERS) {
            boolean isFree = maker.endsWith(".<init>") || maker.equals("GlassStreet.rests");
            Check.due("all is made in constructors: " + maker, true, isFree);
        }
        Check.due("what throws", "[GlassStreet.rests]", THROWERS.toString());
        Check.end();
    }

    private static List<String> classes() {
        List<String> all = new ArrayList<>(List.of("-p", "-c", "-cp", System.getProperty("java.class.path"), "GlassStreet"));
        for (Class<?> inside : GlassStreet.class.getDeclaredClasses()) {
            all.add(inside.getName());
        }
        return all;
    }

    /** Takes each method's calls out of what javap tells. */
    private static void read(String told) {
        Pattern classLine = Pattern.compile("(?:\\w+ )*class (\\S+) .*");
        Pattern methodLine = Pattern.compile("  (?:\\S.* )?([\\w$.]+)\\(.*\\).*;");
        Pattern callLine = Pattern.compile(".*\\binvoke\\w+ .*// (?:Interface)?Method (\\S+):.*");
        String owner = "";
        String method = "";
        for (String line : told.split("\n")) {
            Matcher ownerTold = classLine.matcher(line);
            Matcher methodTold = methodLine.matcher(line);
            Matcher call = callLine.matcher(line);
            if (ownerTold.matches()) {
                owner = ownerTold.group(1);
            } else if (methodTold.matches()) {
                String name = methodTold.group(1);
                method = owner + "." + (name.equals(owner) ? "<init>" : name);
                CALLS.put(method, new TreeSet<>());
                if (line.startsWith("  private ")) {
                    HIDDEN.add(method);
                }
            } else if (call.matches()) {
                String target = call.group(1).replace("\"", "").replace('/', '.');
                CALLS.get(method).add(target.contains(".") ? target : owner + "." + target);
            }
            note(method, line);
        }
    }

    private static void note(String method, String line) {
        Check.due(method + " has " + line.trim(), false, LEFT_OUT.matcher(line).find());
        String code = line.replaceAll("//.*", "");
        if (code.matches("\\s+\\d+: .*") && MAKES.matcher(code).find()) {
            MAKERS.add(method);
        }
        if (code.matches("\\s+\\d+: athrow\\s*")) {
            THROWERS.add(method);
        }
    }

    private static void library() {
        Check.due("methods were found", true, CALLS.size() > 100);
        for (Map.Entry<String, Set<String>> calls : CALLS.entrySet()) {
            for (String target : calls.getValue()) {
                Check.due(calls.getKey() + " calls " + target, true, CALLS.containsKey(target) || LIBRARY.contains(target));
            }
        }
    }

    /** Methods that come back to themselves are private ones. */
    private static void recursion() {
        for (String method : CALLS.keySet()) {
            if (reached(method).contains(method)) {
                Check.due(method + " calls itself and is private", true, HIDDEN.contains(method));
            }
        }
    }

    private static Set<String> reached(String from) {
        Set<String> all = new HashSet<>();
        List<String> open = new ArrayList<>(List.of(from));
        for (int i = 0; i < open.size(); i++) {
            for (String target : CALLS.getOrDefault(open.get(i), Set.of())) {
                if (all.add(target)) {
                    open.add(target);
                }
            }
        }
        return all;
    }

    /** The longest chain of the class's own methods that stand open at once, each once. */
    private static int deepest(String method, Set<String> open) {
        int most = 0;
        open.add(method);
        for (String target : CALLS.get(method)) {
            if (CALLS.containsKey(target) && !open.contains(target)) {
                most = Math.max(most, deepest(target, open));
            }
        }
        open.remove(method);
        return most + 1;
    }
}

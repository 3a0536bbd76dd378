import java.lang.reflect.Constructor;
import java.lang.reflect.Field;
import java.lang.reflect.Method;
import java.lang.reflect.Modifier;
import java.util.Arrays;
import java.util.Set;
import java.util.TreeSet;
import java.util.regex.Matcher;
import java.util.regex.Pattern;

/** The public face: the document's members, and no other that is not private. */
public final class FaceTest {
    private static final String[] FACE = {
        "int feed(long,long,long)", "int street()", "int day()", "int pane(int,int)", "int shown(int,int,int)",
        "int person(int)", "boolean walk(int,int)", "int does(int,int)", "int wash(int)", "boolean curtain(int)",
        "boolean stone(int)", "int hour()", "boolean undo()", "int judged(int)", "int shame(int)", "int harm()",
        "int hide(int,int)", "int proof(int,int)", "int washes(int,int)", "int dark(int)", "boolean say(int,boolean)",
        "int where()", "int ask()", "int memory(int)", "int glass(int)", "int seen(int)", "int eyes()", "int blind()",
        "int young(int)", "int trail(int)", "int last(int)", "int worst()", "int oldest()", "int cloak(int,int)",
        "int twin(int,int)", "int run(int)", "int rests(int,int,int,int) throws NoSuchElementException", "int years(int,int,int)",
        "boolean notch(int,boolean)", "int count(int)",
    };

    /** What the document's face tells beside its methods, which is looked up below. */
    private static final String[] MADE = {
        "public final class GlassStreet {", "public static final int NONE = -1;", "public GlassStreet();",
    };
    private static final Set<String> REST =
        Set.of("", "## The public face", "```java", "```", "import java.util.NoSuchElementException;", "}");

    public static void main(String[] args) throws NoSuchFieldException {
        Class<?> face = GlassStreet.class;
        Check.due("the class is final", true, Modifier.isFinal(face.getModifiers()));
        Check.due("the class is public", true, Modifier.isPublic(face.getModifiers()));
        Check.due("NONE", -1, GlassStreet.NONE);
        Set<String> found = new TreeSet<>();
        Set<String> hidden = new TreeSet<>();
        for (Method method : face.getDeclaredMethods()) {
            if (!Modifier.isPrivate(method.getModifiers())) {
                found.add(told(method));
            } else {
                hidden.add(method.getName());
            }
        }
        Set<String> wanted = new TreeSet<>(Arrays.asList(FACE));
        Check.due("the public methods " + found, true, found.equals(wanted));
        document(found);
        promises(found);
        for (Method method : face.getDeclaredMethods()) {
            if (Modifier.isPublic(method.getModifiers())) {
                Check.due("a private method named " + method.getName(), false, hidden.contains(method.getName()));
                Check.due(method.getName() + " is no static one", false, Modifier.isStatic(method.getModifiers()));
            }
        }
        for (Field field : face.getDeclaredFields()) {
            boolean isFree = Modifier.isPrivate(field.getModifiers()) || field.getName().equals("NONE");
            Check.due("the field " + field.getName() + " is private", true, isFree);
            if (Modifier.isStatic(field.getModifiers())) {
                Check.due("the static field " + field.getName() + " is final", true, Modifier.isFinal(field.getModifiers()));
            }
        }
        int constant = face.getDeclaredField("NONE").getModifiers();
        Check.due("NONE is public", true, Modifier.isPublic(constant) && Modifier.isStatic(constant));
        Constructor<?>[] constructors = face.getDeclaredConstructors();
        Check.due("constructors", 1, constructors.length);
        Check.due("what the constructor takes", 0, constructors[0].getParameterCount());
        Check.due("the constructor is public", true, Modifier.isPublic(constructors[0].getModifiers()));
        for (Class<?> inside : face.getDeclaredClasses()) {
            int modifiers = inside.getModifiers();
            Check.due(inside + " is static", true, Modifier.isStatic(modifiers));
            Check.due(inside + " is private", true, Modifier.isPrivate(modifiers));
        }
        Check.due("some twelve classes", true, face.getDeclaredClasses().length + 1 <= 12);
        Check.end();
    }

    /** The document's public face, line by line: each is one of the class, and the class has no other. */
    private static void document(Set<String> found) {
        String block = Doc.between("## The public face", "## Terms");
        if (block.isEmpty()) {
            return;
        }
        Set<String> unseen = new TreeSet<>(found);
        unseen.addAll(Arrays.asList(MADE));
        for (String line : block.split("\n")) {
            String bare = line.trim();
            if (bare.startsWith("public ")) {
                String told = bare.startsWith("public int ") || bare.startsWith("public boolean ")
                    ? withoutNames(bare.substring("public ".length(), bare.length() - 1)) : bare;
                Check.due("the document's face: " + bare, true, unseen.remove(told));
            } else {
                Check.due("a line of the face that is none: " + bare, true, REST.contains(bare));
            }
        }
        Check.due("what is not in the document's face: " + unseen, 0, unseen.size());
    }

    /** Each promise but the first tells a method as the face does. */
    private static void promises(Set<String> found) {
        String all = Doc.between("## Promise 2:", "## Not promised");
        if (all.isEmpty()) {
            return;
        }
        Set<String> unseen = new TreeSet<>(found);
        Matcher heading = Pattern.compile("## Promise (\\d+): (\\w+)\n\n`([^`]+)`: ").matcher(all);
        int promises = 1;
        while (heading.find()) {
            promises++;
            Check.due("promises are numbered", promises, Integer.parseInt(heading.group(1)));
            Check.due("the promise of " + heading.group(3), true, unseen.remove(withoutNames(heading.group(3))));
            Check.due("its name", true, heading.group(3).contains(" " + heading.group(2) + "("));
        }
        Check.due("promises", 41, promises);
        Check.due("methods that no promise tells: " + unseen, 0, unseen.size());
    }

    private static String withoutNames(String declared) {
        return declared.replaceAll("(int|long|boolean) \\w+(?=[,)])", "$1").replaceAll(", ", ",");
    }

    private static String told(Method method) {
        StringBuilder text = new StringBuilder(method.getReturnType().getName()).append(' ').append(method.getName());
        text.append('(');
        String between = "";
        for (Class<?> type : method.getParameterTypes()) {
            text.append(between).append(type.getName());
            between = ",";
        }
        text.append(')');
        for (Class<?> thrown : method.getExceptionTypes()) {
            text.append(" throws ").append(thrown.getSimpleName());
        }
        return text.toString();
    }
}

import java.lang.reflect.Constructor;
import java.lang.reflect.Field;
import java.lang.reflect.Method;
import java.lang.reflect.Modifier;
import java.util.Arrays;
import java.util.Set;
import java.util.TreeSet;

/** The public face: the document's members, and no other that is not private. */
public final class FaceTest {
    private static final String[] FACE = {
        "int feed(long,long,long)", "int street()", "int day()", "int pane(int,int)", "int shown(int,int,int)",
        "int person(int)", "boolean walk(int,int)", "int does(int,int)", "int wash(int)", "boolean curtain(int)",
        "boolean stone(int)", "int hour()", "boolean undo()", "int judged(int)", "int shame(int)", "int harm()",
        "int hide(int,int)", "int proof(int,int)", "int washes(int,int)", "int dark(int)", "boolean say(int,boolean)",
        "int where()", "int ask()", "int memory(int)", "int glass(int)", "int seen(int)", "int eyes()", "int blind()",
        "int young(int)", "int trail(int)", "int last(int)", "int worst()", "int oldest()", "int cloak(int,int)",
        "int twin(int,int)", "int run(int)", "int rests(int,int,int,int)", "int years(int,int,int)",
        "boolean notch(int,boolean)", "int count(int)",
    };

    public static void main(String[] args) {
        Class<?> face = GlassStreet.class;
        Check.due("the class is final", true, Modifier.isFinal(face.getModifiers()));
        Check.due("the class is public", true, Modifier.isPublic(face.getModifiers()));
        Check.due("NONE", -1, GlassStreet.NONE);
        Set<String> found = new TreeSet<>();
        Set<String> hidden = new TreeSet<>();
        for (Method method : face.getDeclaredMethods()) {
            if (!Modifier.isPrivate(method.getModifiers())) {
                found.add(told(method));
            } else {
                hidden.add(method.getName());
            }
        }
        Set<String> wanted = new TreeSet<>(Arrays.asList(FACE));
        Check.due("the public methods " + found, true, found.equals(wanted));
        for (Method method : face.getDeclaredMethods()) {
            if (Modifier.isPublic(method.getModifiers())) {
                Check.due("a private method named " + method.getName(), false, hidden.contains(method.getName()));
                Check.due(method.getName() + " is no static one", false, Modifier.isStatic(method.getModifiers()));
            }
        }
        for (Field field : face.getDeclaredFields()) {
            boolean isFree = Modifier.isPrivate(field.getModifiers()) || field.getName().equals("NONE");
            Check.due("the field " + field.getName() + " is private", true, isFree);
            if (Modifier.isStatic(field.getModifiers())) {
                Check.due("the static field " + field.getName() + " is final", true, Modifier.isFinal(field.getModifiers()));
            }
        }
        Constructor<?>[] constructors = face.getDeclaredConstructors();
        Check.due("constructors", 1, constructors.length);
        Check.due("what the constructor takes", 0, constructors[0].getParameterCount());
        for (Class<?> inside : face.getDeclaredClasses()) {
            int modifiers = inside.getModifiers();
            Check.due(inside + " is static", true, Modifier.isStatic(modifiers));
            Check.due(inside + " is private", true, Modifier.isPrivate(modifiers));
        }
        Check.due("some twelve classes", true, face.getDeclaredClasses().length + 1 <= 12);
        Check.end();
    }

    private static String told(Method method) {
        StringBuilder text = new StringBuilder(method.getReturnType().getName()).append(' ').append(method.getName());
        text.append('(');
        String between = "";
        for (Class<?> type : method.getParameterTypes()) {
            text.append(between).append(type.getName());
            between = ",";
        }
        return text.append(')').toString();
    }
}

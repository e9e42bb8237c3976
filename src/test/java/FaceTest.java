import java.lang.reflect.Constructor;
import java.lang.reflect.Field;
import java.lang.reflect.Method;
import java.lang.reflect.Modifier;
import java.util.ArrayList;
import java.util.Arrays;
import java.util.List;
import java.util.TreeSet;

/** The class shows the document's face and nothing else (LANGUAGE.md, rule 1). */
public final class FaceTest {
    private static final List<String> DUE = Arrays.asList(
            "BAD", "BUSY", "FULL", "NOT", "NONE", "new(int, int)",
            "load(int, int)", "store(int, int, int)", "drain(int)", "swap(int, int, int)",
            "add(int, int, int)", "bus()", "evict(int, int)", "last(int)", "request(int)",
            "buffered(int)", "state(int, int)", "copy(int, int)", "memory(int)", "seen(int)",
            "count(int)", "victim(int, int)");

    public static void main(String[] args) {
        Class<?> face = SnoopingBus.class;
        Due.is("public and final", face.getModifiers() & (Modifier.PUBLIC | Modifier.FINAL), Modifier.PUBLIC | Modifier.FINAL);
        TreeSet<String> due = new TreeSet<>(DUE);
        TreeSet<String> shown = new TreeSet<>(shownBy(face));
        Due.is("the face " + shown + " against " + due, shown.equals(due) ? 1 : 0, 1);
        for (Method method : face.getDeclaredMethods()) {
            boolean alike = Modifier.isPrivate(method.getModifiers()) && bearsPublicName(face, method.getName());
            Due.is("private " + method.getName() + " bears a public name", alike ? 1 : 0, 0);
        }
        for (Class<?> inside : face.getDeclaredClasses()) {
            boolean open = Modifier.isPublic(inside.getModifiers()) || Modifier.isProtected(inside.getModifiers());
            Due.is(inside.getName() + " is public or protected", open ? 1 : 0, 0);
            Due.is(inside.getName() + " is static", Modifier.isStatic(inside.getModifiers()) ? 1 : 0, 1);
        }
        Due.close();
    }

    private static List<String> shownBy(Class<?> face) {
        List<String> shown = new ArrayList<>();
        int constant = Modifier.PUBLIC | Modifier.STATIC | Modifier.FINAL;
        for (Field field : face.getDeclaredFields()) {
            if (!Modifier.isPrivate(field.getModifiers())) {
                shown.add(field.getName());
                Due.is(field + " is a constant int", field.getModifiers() == constant && field.getType() == int.class ? 1 : 0, 1);
            }
        }
        for (Constructor<?> maker : face.getDeclaredConstructors()) {
            if (!Modifier.isPrivate(maker.getModifiers())) {
                shown.add("new" + types(maker.getParameterTypes()));
                Due.is(maker + " is public", maker.getModifiers(), Modifier.PUBLIC);
            }
        }
        for (Method method : face.getDeclaredMethods()) {
            if (!Modifier.isPrivate(method.getModifiers())) {
                shown.add(method.getName() + types(method.getParameterTypes()));
                Due.is(method + " is public", method.getModifiers(), Modifier.PUBLIC);
                Due.is(method + " answers an int", method.getReturnType() == int.class ? 1 : 0, 1);
            }
        }
        return shown;
    }

    private static String types(Class<?>[] types) {
        List<String> names = new ArrayList<>();
        for (Class<?> type : types) {
            names.add(type.getName());
        }
        return "(" + String.join(", ", names) + ")";
    }

    private static boolean bearsPublicName(Class<?> face, String name) {
        for (Method method : face.getMethods()) {
            if (method.getName().equals(name)) {
                return true;
            }
        }
        return false;
    }
}

import java.lang.reflect.Constructor;
import java.lang.reflect.Field;
import java.lang.reflect.Method;
import java.lang.reflect.Modifier;
import java.util.Arrays;
import java.util.Set;
import java.util.TreeSet;

/** The class has the face of the document and no other member that is not private. */
public final class FaceTest {
    private static final Set<String> FACE = new TreeSet<>(Arrays.asList(
        "int NONE",
        "PausedFabric(int, int, int, int)",
        "int flow(int, int, int)",
        "boolean share(int, int)",
        "int inject(int, int)",
        "int tick(int)",
        "int clock()",
        "int state(int)",
        "int node(int)",
        "boolean marked(int)",
        "int queued(int, int, int)",
        "int held(int, int, int)",
        "boolean asks(int, int)",
        "boolean paused(int, int)",
        "int rate(int)",
        "int alpha(int)",
        "int received(int)",
        "int dropped(int)",
        "int last(int)"));

    public static void main(String[] args) {
        Class<?> type = PausedFabric.class;
        Set<String> found = new TreeSet<>();
        boolean clean = Modifier.isPublic(type.getModifiers()) && Modifier.isFinal(type.getModifiers());
        for (Field field : type.getDeclaredFields()) {
            int modifiers = field.getModifiers();
            clean &= Modifier.isFinal(modifiers) || !Modifier.isStatic(modifiers);
            if (!Modifier.isPrivate(modifiers)) {
                found.add(field.getType() + " " + field.getName());
                clean &= Modifier.isPublic(modifiers) && Modifier.isStatic(modifiers);
            }
        }
        for (Constructor<?> made : type.getDeclaredConstructors()) {
            found.add(type.getName() + listed(made.getParameterTypes()));
            clean &= Modifier.isPublic(made.getModifiers());
        }
        clean &= addMethods(type, found);
        if (!clean || !found.equals(FACE) || PausedFabric.NONE != -1) {
            System.out.println("the face is " + found + ", due is " + FACE);
            System.exit(1);
        }
    }

    private static boolean addMethods(Class<?> type, Set<String> found) {
        boolean clean = true;
        Set<String> open = new TreeSet<>();
        Set<String> hidden = new TreeSet<>();
        for (Method method : type.getDeclaredMethods()) {
            int modifiers = method.getModifiers();
            if (Modifier.isPrivate(modifiers)) {
                hidden.add(method.getName());
                continue;
            }
            open.add(method.getName());
            found.add(method.getReturnType() + " " + method.getName() + listed(method.getParameterTypes()));
            clean &= Modifier.isPublic(modifiers) && !Modifier.isStatic(modifiers);
        }
        hidden.retainAll(open);
        return clean && hidden.isEmpty();
    }

    private static String listed(Class<?>[] types) {
        return Arrays.toString(types).replace('[', '(').replace(']', ')');
    }
}

import java.lang.reflect.Constructor;
import java.lang.reflect.Field;
import java.lang.reflect.Method;
import java.lang.reflect.Modifier;
import java.util.Arrays;
import java.util.Set;
import java.util.TreeSet;

/** 'The public face': the class has every constant, constructor and method of it, and nothing beside them. */
public final class FaceTest {
    private static final Set<String> FACE = new TreeSet<>(Arrays.asList(
        "public static final int NONE",
        "public PausedFabric(int, int, int, int)",
        "public int flow(int, int, int)",
        "public boolean share(int, int)",
        "public int inject(int, int)",
        "public int tick(int)",
        "public int clock()",
        "public int state(int)",
        "public int node(int)",
        "public boolean marked(int)",
        "public int queued(int, int, int)",
        "public int held(int, int, int)",
        "public boolean asks(int, int)",
        "public boolean paused(int, int)",
        "public int rate(int)",
        "public int alpha(int)",
        "public int received(int)",
        "public int dropped(int)",
        "public int last(int)"));

    private static int wrong = 0;

    public static void main(String[] args) {
        Class<?> type = PausedFabric.class;
        check("public and final", type.getModifiers() == (Modifier.PUBLIC | Modifier.FINAL));
        check("no package", type.getPackageName().isEmpty());
        check("extends nothing", type.getSuperclass() == Object.class && type.getInterfaces().length == 0);
        check("NONE is -1", PausedFabric.NONE == -1);
        Set<String> found = membersSeenFromOutside(type);
        check("the face is " + found + ", due is " + FACE, found.equals(FACE));
        checkNames(type);
        for (Class<?> inside : type.getDeclaredClasses()) {
            int modifiers = inside.getModifiers();
            check(inside + " is static", Modifier.isStatic(modifiers));
            check(inside + " is hidden", !Modifier.isPublic(modifiers) && !Modifier.isProtected(modifiers));
        }
        if (wrong != 0) {
            System.exit(1);
        }
    }

    private static void check(String what, boolean holds) {
        if (!holds) {
            wrong++;
            System.out.println("does not hold: " + what);
        }
    }

    private static Set<String> membersSeenFromOutside(Class<?> type) {
        Set<String> found = new TreeSet<>();
        for (Field field : type.getDeclaredFields()) {
            add(found, field.getModifiers(), field.getType() + " " + field.getName());
        }
        for (Constructor<?> made : type.getDeclaredConstructors()) {
            add(found, made.getModifiers(), type.getName() + listed(made.getParameterTypes(), made.getExceptionTypes()));
        }
        for (Method method : type.getDeclaredMethods()) {
            String tail = method.getName() + listed(method.getParameterTypes(), method.getExceptionTypes());
            add(found, method.getModifiers(), method.getReturnType() + " " + tail);
        }
        return found;
    }

    private static void add(Set<String> found, int modifiers, String member) {
        if (!Modifier.isPrivate(modifiers)) {
            found.add((Modifier.toString(modifiers) + " " + member).trim());
        }
    }

    private static String listed(Class<?>[] types, Class<?>[] thrown) {
        String list = Arrays.toString(types).replace('[', '(').replace(']', ')');
        return thrown.length == 0 ? list : list + " throws " + Arrays.toString(thrown);
    }

    /** No private method bears the name of a public one. */
    private static void checkNames(Class<?> type) {
        Set<String> open = new TreeSet<>();
        Set<String> hidden = new TreeSet<>();
        for (Method method : type.getDeclaredMethods()) {
            (Modifier.isPrivate(method.getModifiers()) ? hidden : open).add(method.getName());
        }
        hidden.retainAll(open);
        check("both private and public: " + hidden, hidden.isEmpty());
    }
}

import java.io.IOException;
import java.lang.reflect.Field;
import java.lang.reflect.Method;
import java.lang.reflect.Modifier;
import java.nio.file.Files;
import java.nio.file.Path;
import java.util.ArrayList;
import java.util.List;
import java.util.Set;
import java.util.regex.Matcher;
import java.util.regex.Pattern;

/**
 * The rules of LANGUAGE.md that can be read off the text and the classes of the program. It is run
 * from the root of the project, where the program's source is.
 */
public final class LanguageTest {
    private static final Path SOURCE = Path.of("src/main/java/PausedFabric.java");
    private static final Set<String> IMPORTS = Set.of(
        "java.util.ArrayList", "java.util.List", "java.util.Iterator", "java.util.Arrays", "java.util.NoSuchElementException");
    private static final Set<String> LIBRARY = Set.of("String", "StringBuilder", "Integer", "Long", "Math", "ArrayList",
        "List", "Arrays", "Iterator", "Iterable", "Comparable");
    private static final Set<String> FORBIDDEN = Set.of("package", "synchronized", "assert", "finally", "native", "volatile",
        "transient", "strictfp", "var", "throws", "protected");

    private static int wrong = 0;

    public static void main(String[] args) throws IOException {
        String source = withoutComments(Files.readString(SOURCE));
        List<Class<?>> classes = new ArrayList<>(List.of(PausedFabric.class.getDeclaredClasses()));
        classes.add(PausedFabric.class);
        checkWords(source, classes);
        checkMarks(source);
        checkLengths(source);
        for (Class<?> type : classes) {
            checkMembers(type);
        }
        check("rule 11: at most some twelve classes", classes.size() <= 12);
        if (wrong != 0) {
            System.exit(1);
        }
    }

    private static void check(String what, boolean holds) {
        if (!holds) {
            wrong++;
            System.out.println("does not hold: " + what);
        }
    }

    private static String withoutComments(String text) {
        return text.replaceAll("(?s)/\\*.*?\\*/", "").replaceAll("//[^\n]*", "");
    }

    /** Every name that begins like that of a class is one of the program's own or of rule 4. */
    private static void checkWords(String source, List<Class<?>> classes) {
        Matcher imports = Pattern.compile("import\\s+(static\\s+)?([\\w.*]+)\\s*;").matcher(source);
        while (imports.find()) {
            check("rule 4: import of " + imports.group(2), IMPORTS.contains(imports.group(2)));
        }
        Matcher words = Pattern.compile("\\b[A-Za-z]\\w*\\b").matcher(source);
        while (words.find()) {
            String word = words.group();
            check("no " + word, !FORBIDDEN.contains(word));
            boolean likeAClass = word.matches("[A-Z]\\w*[a-z]\\w*");
            boolean known = LIBRARY.contains(word) || classes.stream().anyMatch(x -> x.getSimpleName().equals(word));
            check("rule 4: " + word, !likeAClass || known);
        }
    }

    private static void checkMarks(String source) {
        check("rule 2: no lambda", !source.contains("->"));
        check("rule 2: no method reference", !source.contains("::"));
        check("rule 5: no static initialiser", !Pattern.compile("static\\s*\\{").matcher(source).find());
        check("rule 6: nothing is thrown, as the document names no exception", !source.contains("throw"));
        check("rule 9: no loop without a bound", !source.matches("(?s).*(while\\s*\\(\\s*true|for\\s*\\([^;]*;\\s*;).*"));
        check("rule 3: characters 0 to 255", source.chars().allMatch(c -> c < 256));
    }

    /** A method begins with a line that ends in ") {" and ends with a brace under its first letter. */
    private static void checkLengths(String source) {
        int began = -1;
        String end = "";
        String[] lines = source.split("\n");
        for (int i = 0; i < lines.length; i++) {
            String line = lines[i];
            boolean head = line.matches("\\s+((public|private|static|final) )*[\\w\\[\\]]+ ?\\w*\\(.*\\) \\{")
                && !line.trim().matches("(if|for|while|switch) .*");
            if (began < 0 && head) {
                began = i;
                end = line.substring(0, line.length() - line.stripLeading().length()) + "}";
            } else if (began >= 0 && line.equals(end)) {
                check("rule 11: a short method at " + lines[began].trim(), i - began < 60);
                began = -1;
            }
        }
        check("every method has its end", began < 0);
    }

    private static void checkMembers(Class<?> type) {
        int fields = 0;
        for (Field field : type.getDeclaredFields()) {
            int modifiers = field.getModifiers();
            if (Modifier.isStatic(modifiers)) {
                check("rule 5: final " + field, Modifier.isFinal(modifiers));
            } else {
                fields++;
            }
        }
        check("rule 11: at most some twenty fields in " + type, fields <= 20);
        for (Method method : type.getDeclaredMethods()) {
            check("rule 11: at most seven parameters of " + method, method.getParameterCount() <= 7);
            boolean own = !Set.of("equals", "hashCode", "toString").contains(method.getName());
            check("rule 6: no " + method, own);
        }
    }
}

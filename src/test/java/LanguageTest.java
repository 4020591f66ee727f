import java.io.IOException;
import java.lang.reflect.Constructor;
import java.lang.reflect.Field;
import java.lang.reflect.Method;
import java.lang.reflect.Modifier;
import java.nio.file.Files;
import java.nio.file.Path;
import java.util.Set;
import java.util.TreeSet;
import java.util.regex.Matcher;
import java.util.regex.Pattern;

/** The rules of LANGUAGE.md that can be told from the class and its text. Runs in the checkout. */
public final class LanguageTest {
    private static final Answers answers = new Answers("LanguageTest");
    private static final Path SOURCE = Path.of("src", "main", "java", "KeptHeap.java");
    private static final Set<String> FACE = Set.of(
        "int NONE", "int BAD", "int REFUSED", "int FULL", "KeptHeap(int, int)",
        "int make(int, int)", "int set(int, int, int)", "int link(int, int, int)",
        "int refers(int, int)", "int number(int, int)", "int load(int, int, int)",
        "int copy(int, int)", "int drop(int)", "int collect()", "int minor()",
        "int object(int, int)", "int at(int)", "int count(int)", "int same(int, int)",
        "long sum(int)");
    private static final String[] NOT_ALLOWED = {
        "\\b(throw|throws|try|catch|finally|synchronized|assert|import|package|volatile|native)\\b",
        "->", "::", "@", "\\bprotected\\b", "\\b(toString|hashCode|getClass)\\b",
        "\\b(System|Thread|Object|Random)\\b", "\\+ *\"", "\" *\\+"};

    public static void main(String[] args) throws IOException {
        face();
        nestedClasses();
        String text = withoutComments(Files.readString(SOURCE));
        for (String pattern : NOT_ALLOWED) {
            Matcher found = Pattern.compile(pattern).matcher(text);
            answers.dueTrue("nothing like " + pattern, !found.find());
        }
        answers.end();
    }

    private static void face() {
        Class<?> heap = KeptHeap.class;
        answers.dueTrue("public and final", Modifier.isPublic(heap.getModifiers()) && Modifier.isFinal(heap.getModifiers()));
        Set<String> seen = new TreeSet<>();
        Set<String> publicNames = new TreeSet<>();
        for (Method method : heap.getDeclaredMethods()) {
            if (Modifier.isPrivate(method.getModifiers())) {
                continue;
            }
            answers.dueTrue(method + " is of the object", !Modifier.isStatic(method.getModifiers()));
            seen.add(method.getReturnType() + " " + method.getName() + list(method.getParameterTypes()));
            publicNames.add(method.getName());
        }
        for (Constructor<?> constructor : heap.getDeclaredConstructors()) {
            seen.add(constructor.getName() + list(constructor.getParameterTypes()));
        }
        for (Field field : heap.getDeclaredFields()) {
            if (!Modifier.isPrivate(field.getModifiers())) {
                seen.add(field.getType() + " " + field.getName());
            }
            staticFieldIsConstant(field);
        }
        answers.dueTrue("the face is " + seen, seen.equals(FACE));
        for (Method method : heap.getDeclaredMethods()) {
            boolean hidden = Modifier.isPrivate(method.getModifiers());
            answers.dueTrue(method + " has a name of its own", !hidden || !publicNames.contains(method.getName()));
        }
    }

    private static void nestedClasses() {
        Class<?>[] nested = KeptHeap.class.getDeclaredClasses();
        answers.dueTrue("at most twelve classes", nested.length + 1 <= 12);
        for (Class<?> one : nested) {
            int kind = one.getModifiers();
            answers.dueTrue(one + " is static", Modifier.isStatic(kind));
            answers.dueTrue(one + " is not for others", !Modifier.isPublic(kind) && !Modifier.isProtected(kind));
            answers.dueTrue(one + " has no classes inside", one.getDeclaredClasses().length == 0);
            for (Field field : one.getDeclaredFields()) {
                staticFieldIsConstant(field);
            }
        }
    }

    private static void staticFieldIsConstant(Field field) {
        int kind = field.getModifiers();
        answers.dueTrue(field + " is a constant", !Modifier.isStatic(kind) || Modifier.isFinal(kind));
    }

    private static String list(Class<?>[] types) {
        StringBuilder text = new StringBuilder("(");
        for (Class<?> type : types) {
            text.append(text.length() > 1 ? ", " : "").append(type);
        }
        return text.append(")").toString();
    }

    private static String withoutComments(String text) {
        return text.replaceAll("(?s)/\\*.*?\\*/", " ").replaceAll("//[^\n]*", " ");
    }
}

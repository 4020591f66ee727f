import java.io.IOException;
import java.lang.reflect.Constructor;
import java.lang.reflect.Field;
import java.lang.reflect.Method;
import java.lang.reflect.Modifier;
import java.nio.file.Files;
import java.nio.file.Path;
import java.util.List;
import java.util.Set;
import java.util.TreeSet;
import java.util.regex.Matcher;
import java.util.regex.Pattern;

/** The rules of LANGUAGE.md that can be told from the class and its text. Runs in the checkout. */
public final class LanguageTest {
    private static final Answers answers = new Answers("LanguageTest");
    private static final Path SOURCE = Path.of("src", "main", "java", "KeptHeap.java");
    private static final Set<String> FACE = Set.of(
        "int NONE", "int BAD", "int REFUSED", "int FULL", "KeptHeap(int, int)",
        "int make(int, int)", "int set(int, int, int)", "int link(int, int, int)",
        "int refers(int, int)", "int number(int, int)", "int load(int, int, int)",
        "int copy(int, int)", "int drop(int)", "int collect()", "int minor()",
        "int object(int, int)", "int at(int)", "int count(int)", "int same(int, int)",
        "long sum(int)");
    private static final String[] NOT_ALLOWED = {
        "\\b(throw|throws|try|catch|finally|synchronized|assert|package|volatile|native|protected)\\b",
        "::", "\\b(hashCode|getClass|Thread|Object|Random|Exception|Throwable)\\b", "\\w+Exact\\b",
        "\\bSystem\\b(?!\\.arraycopy\\b)", "\\bimport (?!java\\.util\\.(ArrayList|List|Arrays|Iterator);)",
        "\\+ *\"", "\" *\\+"};
    private static final int MOST_CLASSES = 12;
    private static final int MOST_FIELDS = 20;
    private static final int MOST_PARAMETERS = 7;
    private static final int MOST_LINES = 60;

    public static void main(String[] args) throws IOException {
        face();
        classes();
        String text = withoutComments(Files.readString(SOURCE));
        for (String pattern : NOT_ALLOWED) {
            Matcher found = Pattern.compile(pattern).matcher(text);
            answers.dueTrue("nothing like " + pattern, !found.find());
        }
        methodsAreShort(text);
        answers.end();
    }

    private static void face() {
        Class<?> heap = KeptHeap.class;
        answers.dueTrue("public and final", Modifier.isPublic(heap.getModifiers()) && Modifier.isFinal(heap.getModifiers()));
        Set<String> seen = new TreeSet<>();
        Set<String> publicNames = new TreeSet<>();
        for (Method method : heap.getDeclaredMethods()) {
            if (Modifier.isPrivate(method.getModifiers())) {
                continue;
            }
            answers.dueTrue(method + " is of the object", !Modifier.isStatic(method.getModifiers()));
            seen.add(method.getReturnType() + " " + method.getName() + list(method.getParameterTypes()));
            publicNames.add(method.getName());
        }
        for (Constructor<?> constructor : heap.getDeclaredConstructors()) {
            seen.add(constructor.getName() + list(constructor.getParameterTypes()));
        }
        for (Field field : heap.getDeclaredFields()) {
            if (!Modifier.isPrivate(field.getModifiers())) {
                seen.add(field.getType() + " " + field.getName());
            }
        }
        answers.dueTrue("the face is " + seen, seen.equals(FACE));
        for (Method method : heap.getDeclaredMethods()) {
            boolean hidden = Modifier.isPrivate(method.getModifiers());
            answers.dueTrue(method + " has a name of its own", !hidden || !publicNames.contains(method.getName()));
        }
    }

    private static void classes() {
        Class<?>[] nested = KeptHeap.class.getDeclaredClasses();
        answers.dueTrue("at most " + MOST_CLASSES + " classes", nested.length + 1 <= MOST_CLASSES);
        oneClass(KeptHeap.class);
        for (Class<?> one : nested) {
            int kind = one.getModifiers();
            answers.dueTrue(one + " is static", Modifier.isStatic(kind));
            answers.dueTrue(one + " is not for others", !Modifier.isPublic(kind) && !Modifier.isProtected(kind));
            answers.dueTrue(one + " has no classes inside", one.getDeclaredClasses().length == 0);
            oneClass(one);
        }
    }

    private static void oneClass(Class<?> one) {
        int fields = 0;
        for (Field field : one.getDeclaredFields()) {
            int kind = field.getModifiers();
            answers.dueTrue(field + " is a constant", !Modifier.isStatic(kind) || Modifier.isFinal(kind));
            fields += Modifier.isStatic(kind) ? 0 : 1;
        }
        answers.dueTrue(one + " has few fields", fields <= MOST_FIELDS);
        for (Method method : one.getDeclaredMethods()) {
            answers.dueTrue(method + " has few parameters", method.getParameterCount() <= MOST_PARAMETERS);
            answers.dueTrue(method + " is no lambda", !method.getName().startsWith("lambda$"));
        }
    }

    /** A method begins and ends with lines that are indented alike. */
    private static void methodsAreShort(String text) {
        List<String> lines = text.lines().toList();
        for (int first = 0; first < lines.size(); first++) {
            String line = lines.get(first);
            if (line.matches("( {4}| {8})\\S.*\\) \\{")) {
                String end = line.substring(0, line.length() - line.stripLeading().length()) + "}";
                int length = lines.subList(first, lines.size()).indexOf(end) + 1;
                answers.dueTrue(line.strip() + " is short", length > 0 && length <= MOST_LINES);
            }
        }
    }

    private static String list(Class<?>[] types) {
        StringBuilder text = new StringBuilder("(");
        for (Class<?> type : types) {
            text.append(text.length() > 1 ? ", " : "").append(type);
        }
        return text.append(")").toString();
    }

    private static String withoutComments(String text) {
        return text.replaceAll("(?s)/\\*.*?\\*/", " ").replaceAll("//[^\n]*", " ");
    }
}

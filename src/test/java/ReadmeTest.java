import java.io.IOException;
import java.lang.reflect.Method;
import java.lang.reflect.Modifier;
import java.nio.file.Files;
import java.nio.file.Path;
import java.util.Arrays;
import java.util.HashSet;
import java.util.Set;
import java.util.regex.Matcher;
import java.util.regex.Pattern;

/** The example in README.md: each call in it answers what stands behind it. Runs in the checkout. */
public final class ReadmeTest {
    private static final Answers answers = new Answers("ReadmeTest");
    private static final Pattern NEW = Pattern.compile("KeptHeap heap = new KeptHeap\\((\\d+), (\\d+)\\);");
    private static final Pattern CALL = Pattern.compile("heap\\.(\\w+)\\(([-\\d, ]*)\\); +// (-?\\d+): .*");

    public static void main(String[] args) throws IOException, ReflectiveOperationException {
        String text = Files.readString(Path.of("README.md"));
        String[] lines = between(text, "```java\n", "```").split("\n");
        Matcher first = NEW.matcher(lines[0]);
        answers.dueTrue("the example begins with a new heap", first.matches());
        KeptHeap heap = new KeptHeap(Integer.parseInt(first.group(1)), Integer.parseInt(first.group(2)));
        Set<String> used = new HashSet<>();
        for (String line : Arrays.asList(lines).subList(1, lines.length)) {
            Matcher call = CALL.matcher(line);
            answers.dueTrue(line + " is a call with its answer", call.matches());
            used.add(call.group(1));
            answers.due(line, answerOf(heap, call.group(1), call.group(2)), Long.parseLong(call.group(3)));
        }
        for (Method method : KeptHeap.class.getDeclaredMethods()) {
            boolean shown = !Modifier.isPublic(method.getModifiers()) || used.contains(method.getName());
            answers.dueTrue(method.getName() + " is in the example", shown);
        }
        answers.end();
    }

    private static long answerOf(KeptHeap heap, String name, String list) throws ReflectiveOperationException {
        Object[] numbers = list.isEmpty() ? new Object[0]
            : Arrays.stream(list.split(", ")).map(Integer::valueOf).toArray();
        Class<?>[] types = new Class<?>[numbers.length];
        Arrays.fill(types, int.class);
        return ((Number) KeptHeap.class.getMethod(name, types).invoke(heap, numbers)).longValue();
    }

    private static String between(String text, String start, String end) {
        int from = text.indexOf(start) + start.length();
        return text.substring(from, text.indexOf(end, from));
    }
}

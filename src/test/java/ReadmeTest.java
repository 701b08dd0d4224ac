import java.io.IOException;
import java.lang.reflect.Method;
import java.lang.reflect.Modifier;
import java.nio.file.Files;
import java.nio.file.Path;
import java.util.regex.Matcher;
import java.util.regex.Pattern;

/** README.md shows how the class is used: its example is run line by line, and its table must have every call. */
public final class ReadmeTest {
    private static final Pattern NEW = Pattern.compile("PastTree tree = new PastTree\\((\\d+), (\\d+)\\);.*");
    private static final Pattern CALL = Pattern.compile("tree\\.(\\w+)\\((.*?)\\); *// answers (-?\\d+).*");
    private static final Checks checks = new Checks();

    public static void main(String[] args) throws IOException, ReflectiveOperationException {
        String readme = Files.readString(Path.of("README.md"));
        exampleAnswersAsTold(readme);
        tableHasEveryCall(readme);
        checks.end();
    }

    private static void exampleAnswersAsTold(String readme) throws ReflectiveOperationException {
        checks.about("README.md, example");
        String fence = "```";
        int from = readme.indexOf(fence + "java");
        String example = readme.substring(from + fence.length() + 4, readme.indexOf(fence, from + fence.length())).strip();
        PastTree tree = null;
        for (String line : example.split("\n")) {
            Matcher made = NEW.matcher(line);
            Matcher call = CALL.matcher(line);
            if (made.matches()) {
                tree = new PastTree(Integer.parseInt(made.group(1)), Integer.parseInt(made.group(2)));
            } else if (call.matches() && tree != null) {
                checks.due(line, answer(tree, call.group(1), call.group(2)), Long.parseLong(call.group(3)));
            } else {
                checks.due("a line that is no call with its answer: " + line, 0, 1);
            }
        }
        checks.due("made an object", tree == null ? 0 : 1, 1);
    }

    private static long answer(PastTree tree, String name, String given) throws ReflectiveOperationException {
        String[] texts = given.isEmpty() ? new String[0] : given.split(", ");
        for (Method method : PastTree.class.getMethods()) {
            if (method.getName().equals(name) && method.getParameterCount() == texts.length) {
                return ((Number) method.invoke(tree, values(method.getParameterTypes(), texts))).longValue();
            }
        }
        throw new NoSuchMethodException(name);
    }

    private static Object[] values(Class<?>[] types, String[] texts) {
        Object[] values = new Object[texts.length];
        for (int i = 0; i < texts.length; i++) {
            values[i] = types[i] == boolean.class ? (Object) Boolean.valueOf(texts[i]) : (Object) Integer.valueOf(texts[i]);
        }
        return values;
    }

    private static void tableHasEveryCall(String readme) {
        checks.about("README.md, table");
        checks.due("PastTree", readme.contains("\n| `PastTree(") ? 1 : 0, 1);
        for (Method method : PastTree.class.getDeclaredMethods()) {
            String row = "\n| `" + method.getName() + "(";
            boolean isOpen = Modifier.isPublic(method.getModifiers());
            checks.due(method.getName(), isOpen == readme.contains(row) ? 1 : 0, 1);
        }
    }
}

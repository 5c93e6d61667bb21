import java.io.File;
import java.io.IOException;
import java.lang.reflect.InvocationTargetException;
import java.lang.reflect.Method;
import java.lang.reflect.Modifier;
import java.nio.file.Files;
import java.nio.file.Path;
import java.util.HashMap;
import java.util.Map;
import java.util.regex.Matcher;
import java.util.regex.Pattern;

/** README.md: its example answers what its remarks say, and it leaves out no call and no test. */
public final class ReadmeTest {
    private static final Pattern BLOCK = Pattern.compile("(?s)```java\n(.*?)```");
    private static final Pattern CALL =
            Pattern.compile("(?:int (\\w+) = )?x\\.(\\w+)\\(([^)]*)\\);(?:\\s+// (-?\\w+):.*)?");

    private static final Map<String, Integer> VARIABLES = new HashMap<>();

    public static void main(String[] args) throws IOException, ReflectiveOperationException {
        Path main = Path.of(System.getProperty("source", "src/main/java/NetworkOrders.java"));
        Path root = main.toAbsolutePath().normalize().getParent().getParent().getParent().getParent();
        String text = Files.readString(root.resolve("README.md"));
        example(text);
        namesEveryCall(text);
        namesEveryTest(text, root.resolve("src/test/java").toFile());
        Check.end();
    }

    private static void example(String text) throws ReflectiveOperationException {
        Matcher block = BLOCK.matcher(text);
        Check.due("README.md has an example", block.find(), true);
        String[] lines = block.group(1).split("\n");
        Check.due(lines[0], lines[0].equals("NetworkOrders x = new NetworkOrders();"), true);
        NetworkOrders x = new NetworkOrders();
        for (int i = 1; i < lines.length; i++) {
            Matcher call = CALL.matcher(lines[i]);
            boolean understood = call.matches();
            Check.due("understood: " + lines[i], understood, true);
            if (understood) {
                answers(x, call);
            }
        }
    }

    private static void answers(NetworkOrders x, Matcher call) throws ReflectiveOperationException {
        String[] words = call.group(3).isEmpty() ? new String[0] : call.group(3).split(", ");
        Class<?>[] types = new Class<?>[words.length];
        Object[] numbers = new Object[words.length];
        for (int i = 0; i < words.length; i++) {
            types[i] = int.class;
            numbers[i] = VARIABLES.containsKey(words[i]) ? VARIABLES.get(words[i]) : Integer.valueOf(words[i]);
        }
        Method method = NetworkOrders.class.getMethod(call.group(2), types);
        String answer;
        try {
            answer = String.valueOf(method.invoke(x, numbers));
        } catch (InvocationTargetException e) {
            answer = String.valueOf(e.getCause());
        }
        if (call.group(1) != null) {
            VARIABLES.put(call.group(1), Integer.valueOf(answer));
        }
        String due = method.getReturnType() == void.class ? "null" : call.group(4);
        Check.due(call.group() + " answered " + answer, answer.equals(due), true);
    }

    private static void namesEveryCall(String text) {
        for (Method method : NetworkOrders.class.getDeclaredMethods()) {
            if (Modifier.isPublic(method.getModifiers())) {
                Pattern row = Pattern.compile("(?m)^\\|[^|]*`" + method.getName() + "\\(");
                Check.due("a row for " + method, row.matcher(text).find(), true);
            }
        }
    }

    private static void namesEveryTest(String text, File tests) {
        String[] names = tests.list();
        Check.due("there are tests", names != null && names.length > 0, true);
        for (String name : names == null ? new String[0] : names) {
            if (name.endsWith("Test.java")) {
                String row = "| `" + name.substring(0, name.length() - ".java".length()) + "` |";
                Check.due("a row for " + name, text.contains(row), true);
            }
        }
    }
}

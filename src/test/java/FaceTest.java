import java.io.IOException;
import java.lang.reflect.Constructor;
import java.lang.reflect.Field;
import java.lang.reflect.Method;
import java.lang.reflect.Modifier;
import java.nio.file.Files;
import java.nio.file.Path;
import java.util.Arrays;
import java.util.Set;
import java.util.TreeSet;
import java.util.regex.Matcher;
import java.util.regex.Pattern;

/** The public face is the document's and no more; the rules of the language that a text can show. */
public final class FaceTest {
    private static final String[] FACE = {
        "int tensor(int)", "boolean leg(int,int,int)", "boolean put(int,int,int,int)", "void clear()", "int open()",
        "long value(int,int)", "long slope(int,int,int,int)", "int cost()", "int peak()", "int step(int,int)",
        "int greedy(int)", "int cut(int)", "int costOf(int)", "int total(int)"};
    private static final String[] RULED_OUT = {
        "->", "::", "\\bcatch\\b", "\\bfinally\\b", "\\bassert\\b", "\\bsynchronized\\b", "Exact\\b", "\\bpackage\\b",
        "\\bMap\\b", "\\bSystem\\.(?!arraycopy)", "\\bThread\\b", "\\bRandom\\b", "\\bprintStackTrace\\b",
        "\\bstatic\\s*\\{", "\\bstatic (?!final |\\w+ \\w+\\(|void |int |boolean |long )", "[^\\x00-\\x7f]",
        "\\bimport (?!java\\.util\\.(Arrays|NoSuchElementException);)", "\\bjava\\.(?!util\\.)", "\\bArrays\\.(?!fill\\()",
        "\\bMath\\.(?!max\\()", "\\bInteger\\.(?!(bitCount|numberOfTrailingZeros)\\()", "\\btry\\b",
        "\\bthrow (?!new (NoSuchElement|Arithmetic)Exception\\(\"[^\"]*\"\\);)", "\\bequals\\b", "\\bhashCode\\b"};
    private static final int MOST_LINES = 60;

    public static void main(String[] args) throws IOException {
        members();
        nestedClasses();
        String source = source();
        for (String rule : RULED_OUT) {
            Check.due("ruled out: " + rule, Pattern.compile(rule).matcher(source).find(), false);
        }
        methodsAreShort(source);
        Check.end();
    }

    /** A method ends at the brace that stands as deep as its first line. */
    private static void methodsAreShort(String source) {
        Matcher head = Pattern.compile("(?m)^( +)(?:public|private) [^;=]*\\) [^;=]*\\{$").matcher(source);
        int methods = 0;
        while (head.find()) {
            methods++;
            String body = source.substring(head.start());
            int end = body.indexOf("\n" + head.group(1) + "}");
            long lines = body.substring(0, Math.max(0, end)).lines().count() + 1;
            Check.due("short: " + head.group().trim(), end > 0 && lines <= MOST_LINES, true);
        }
        Check.due("methods are found", methods > FACE.length, true);
    }

    private static void members() {
        Set<String> found = new TreeSet<>();
        Set<String> names = new TreeSet<>();
        for (Method method : NetworkOrders.class.getDeclaredMethods()) {
            if (!Modifier.isPrivate(method.getModifiers())) {
                found.add(shape(method));
                Check.due(method + " is public", Modifier.isPublic(method.getModifiers()), true);
            }
            Check.due(method + " bears a name of its own", names.add(method.getName()), true);
            Check.due(method + " has few parameters", method.getParameterCount() <= 7, true);
        }
        Check.due("the face: " + found, found.equals(new TreeSet<>(Arrays.asList(FACE))), true);
        Check.due("final", Modifier.isFinal(NetworkOrders.class.getModifiers()), true);
        Constructor<?>[] constructors = NetworkOrders.class.getDeclaredConstructors();
        Check.due("one constructor", constructors.length, 1);
        Check.due("without arguments", constructors[0].getParameterCount(), 0);
        for (Field field : NetworkOrders.class.getDeclaredFields()) {
            boolean isNone = field.getName().equals("NONE");
            Check.due(field + " is private", Modifier.isPrivate(field.getModifiers()), !isNone);
            if (Modifier.isStatic(field.getModifiers())) {
                Check.due(field + " is final", Modifier.isFinal(field.getModifiers()), true);
            }
        }
    }

    private static String shape(Method method) {
        StringBuilder shape = new StringBuilder();
        shape.append(method.getReturnType().getName()).append(' ').append(method.getName()).append('(');
        for (int i = 0; i < method.getParameterCount(); i++) {
            shape.append(i == 0 ? "" : ",").append(method.getParameterTypes()[i].getName());
        }
        return shape.append(')').toString();
    }

    private static void nestedClasses() {
        Class<?>[] classes = NetworkOrders.class.getDeclaredClasses();
        Check.due("few classes", classes.length < 12, true);
        Set<String> face = new TreeSet<>();
        for (Method method : NetworkOrders.class.getMethods()) {
            face.add(method.getName());
        }
        for (Class<?> nested : classes) {
            Check.due(nested + " is static", Modifier.isStatic(nested.getModifiers()), true);
            Check.due(nested + " is public", Modifier.isPublic(nested.getModifiers()), false);
            for (Method method : nested.getDeclaredMethods()) {
                Check.due(method + " bears a name of the face", face.contains(method.getName()), false);
                Check.due(method + " has few parameters", method.getParameterCount() <= 7, true);
            }
        }
    }

    /** The source without its comments; .ci/run tells where it lies. */
    private static String source() throws IOException {
        String path = System.getProperty("source", "src/main/java/NetworkOrders.java");
        String text = Files.readString(Path.of(path));
        return text.replaceAll("(?s)/\\*.*?\\*/", "").replaceAll("//[^\n]*", "");
    }
}

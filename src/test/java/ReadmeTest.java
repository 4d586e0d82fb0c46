import java.io.IOException;
import java.lang.reflect.InvocationTargetException;
import java.lang.reflect.Method;
import java.lang.reflect.Modifier;
import java.nio.file.Files;
import java.nio.file.Path;
import java.util.regex.Matcher;
import java.util.regex.Pattern;

/** What README.md shows: each call answers what stands behind its arrow, and each call of the face is named. */
public final class ReadmeTest {
    private static final Pattern NEW = Pattern.compile("PinnedLeaves yard = new PinnedLeaves\\(\\);");
    private static final Pattern CALL = Pattern.compile("yard\\.(\\w+)\\(([-0-9, ]*)\\); +// -> (-?\\w+)(: .*)?");
    private static final Pattern ORDERS = Pattern.compile("String orders = \"(.*)\";");
    private static final Pattern APPENDING = Pattern.compile(
            "for \\(int at = 0; at < orders.length\\(\\); at\\+\\+\\) \\{| {4}yard.append\\(orders.charAt\\(at\\)\\);|\\}");

    private PinnedLeaves yard;

    public static void main(String[] args) throws IOException {
        String readme = Files.readString(Path.of("README.md"));
        new ReadmeTest().examples(readme);
        for (Method method : PinnedLeaves.class.getDeclaredMethods()) {
            if (Modifier.isPublic(method.getModifiers())) {
                Due.is(method.getName() + " is named", readme.contains("`" + method.getName() + "`") ? 1 : 0, 1);
            }
        }
        Due.end("ReadmeTest");
    }

    private void examples(String readme) {
        boolean isJava = false;
        int calls = 0;
        for (String line : readme.split("\n")) {
            if (line.startsWith("```")) {
                isJava = line.equals("```java");
            } else if (isJava) {
                calls += example(line) ? 1 : 0;
            }
        }
        Due.is("README.md shows calls", calls > 0 ? 1 : 0, 1);
    }

    /** Does a line, as far as it is a call whose answer is told, the new object, or the text of orders. */
    private boolean example(String line) {
        Matcher call = CALL.matcher(line);
        if (NEW.matcher(line).matches()) {
            yard = new PinnedLeaves();
        } else if (ORDERS.matcher(line).matches()) {
            Due.write(yard, line.substring(line.indexOf('"') + 1, line.lastIndexOf('"')));
        } else if (call.matches()) {
            Due.isText(line, answer(call.group(1), call.group(2)), call.group(3));
            return true;
        } else if (!APPENDING.matcher(line).matches()) {
            Due.tell("no test understands the line " + line);
        }
        return false;
    }

    private String answer(String name, String given) {
        String[] words = given.isEmpty() ? new String[0] : given.split(", ");
        Class<?>[] types = new Class<?>[words.length];
        Object[] numbers = new Object[words.length];
        for (int at = 0; at < words.length; at++) {
            types[at] = int.class;
            numbers[at] = Integer.valueOf(words[at]);
        }
        try {
            return String.valueOf(PinnedLeaves.class.getMethod(name, types).invoke(yard, numbers));
        } catch (InvocationTargetException e) {
            return e.getCause().getClass().getSimpleName();
        } catch (ReflectiveOperationException e) {
            return "no such call";
        }
    }
}

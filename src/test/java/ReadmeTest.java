import java.io.IOException;
import java.lang.reflect.Method;
import java.lang.reflect.Modifier;
import java.nio.file.Files;
import java.nio.file.Path;
import java.util.TreeSet;
import java.util.regex.Matcher;
import java.util.regex.Pattern;

/** The calls that README.md shows, each of the face at least once, answer what stands behind them. */
public final class ReadmeTest {
    private static final Pattern CALL =
        Pattern.compile("x\\.(\\w+)\\(([^()]*)\\);\\s+// (-?\\d+|[A-Z]+)\\b.*");

    public static void main(String[] args) throws ReflectiveOperationException, IOException {
        String readme = Files.readString(Path.of("README.md"));
        String[] parts = readme.split("```");
        Due.is("README.md shows an example of calls", parts.length > 1 && parts[1].startsWith("java\n") ? 1 : 0, 1);
        TreeSet<String> shown = replay(parts[1].substring("java\n".length()).trim().split("\n"));
        TreeSet<String> face = new TreeSet<>();
        for (Method method : MoreHands.class.getDeclaredMethods()) {
            if (Modifier.isPublic(method.getModifiers())) {
                face.add(method.getName());
            }
        }
        Due.same("methods that README.md shows", shown.toString(), face.toString());
        refusals(readme);
        Due.is("README.md tells how to run the tests", readme.contains("\n    .ci/run\n") ? 1 : 0, 1);
        Due.end();
    }

    private static TreeSet<String> replay(String[] lines) throws ReflectiveOperationException {
        TreeSet<String> shown = new TreeSet<>();
        Due.same("the first line", lines[0], "MoreHands x = new MoreHands();");
        MoreHands x = new MoreHands();
        for (int i = 1; i < lines.length; i++) {
            Matcher call = CALL.matcher(lines[i]);
            Due.is("a call and its answer: " + lines[i], call.matches() ? 1 : 0, 1);
            if (call.matches()) {
                shown.add(call.group(1));
                Due.is(lines[i], answer(x, call.group(1), call.group(2)), number(call.group(3)));
            }
        }
        return shown;
    }

    private static int answer(MoreHands x, String name, String given) throws ReflectiveOperationException {
        String[] texts = given.isEmpty() ? new String[0] : given.split(", ");
        for (Method method : MoreHands.class.getDeclaredMethods()) {
            if (method.getName().equals(name) && method.getParameterCount() == texts.length) {
                Object[] values = new Object[texts.length];
                for (int i = 0; i < values.length; i++) {
                    boolean truth = method.getParameterTypes()[i] == boolean.class;
                    values[i] = truth ? (Object) Boolean.valueOf(texts[i]) : (Object) Integer.valueOf(texts[i]);
                }
                return (Integer) method.invoke(x, values);
            }
        }
        throw new NoSuchMethodException(name + "(" + given + ")");
    }

    private static int number(String text) throws ReflectiveOperationException {
        return Character.isLetter(text.charAt(0)) ? MoreHands.class.getField(text).getInt(null)
            : Integer.parseInt(text);
    }

    private static void refusals(String readme) throws ReflectiveOperationException {
        for (String name : new String[] {"NONE", "UNKNOWN", "OUTSIDE", "NOT"}) {
            String told = "`" + name + "` (" + number(name) + ")";
            Due.is("README.md tells " + told, readme.contains(told) ? 1 : 0, 1);
        }
    }
}

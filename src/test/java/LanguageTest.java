import java.io.IOException;
import java.lang.reflect.Constructor;
import java.lang.reflect.Field;
import java.lang.reflect.Method;
import java.lang.reflect.Modifier;
import java.nio.file.Files;
import java.nio.file.Path;
import java.util.ArrayList;
import java.util.List;
import java.util.TreeSet;
import java.util.regex.Matcher;
import java.util.regex.Pattern;

/** Those rules of ../shared/LANGUAGE.md that can be seen from the text or from the class. */
public final class LanguageTest {
    private static final String[] FACE = {
        "int again()", "int digest()", "int fail(int, boolean)", "int hindsight(int)", "int load(int, int)",
        "int lose(int, boolean)", "int now(int)", "int plan(int, int)", "int server(int, int)",
        "int setting(int, int)", "int swing(int, int)", "int tick(int)", "int told(int)", "int was(int, int)",
        "int worst(int, int, int)"};
    private static final String[] FORBIDDEN = {
        "throw", "throws", "try", "catch", "finally", "synchronized", "assert", "package", "native", "volatile",
        "Object", "Random", "Thread", "Exception", "Runnable", "Float", "Double", "BigInteger", "currentTimeMillis",
        "nanoTime", "System.out", "System.in", "System.err", "System.exit", "hashCode", "getClass"};
    private static final String IMPORTS = "import java.util.(ArrayList|List|Arrays|Iterator);";

    public static void main(String[] args) throws IOException {
        face();
        classesInside();
        text(Files.readString(Path.of("src/main/java/MoreHands.java")));
        Due.end();
    }

    private static void face() {
        TreeSet<String> methods = new TreeSet<>();
        TreeSet<String> names = new TreeSet<>();
        for (Method method : MoreHands.class.getDeclaredMethods()) {
            if (!Modifier.isPrivate(method.getModifiers())) {
                methods.add(signature(method));
                names.add(method.getName());
            }
        }
        Due.same("methods of the face", methods.toString(), new TreeSet<>(List.of(FACE)).toString());
        List<Class<?>> all = new ArrayList<>(List.of(MoreHands.class.getDeclaredClasses()));
        all.add(MoreHands.class);
        for (Class<?> each : all) {
            for (Method method : each.getDeclaredMethods()) {
                boolean clashes = names.contains(method.getName())
                    && (each != MoreHands.class || Modifier.isPrivate(method.getModifiers()));
                holds(each.getName() + "." + method.getName() + " bears the name of a public one", !clashes);
            }
        }
        TreeSet<String> constants = new TreeSet<>();
        for (Field field : MoreHands.class.getDeclaredFields()) {
            int m = field.getModifiers();
            if (!Modifier.isPrivate(m)) {
                constants.add(Modifier.toString(m) + " " + field.getType() + " " + field.getName());
            }
        }
        Due.same("constants of the face", constants.toString(), "[public static final int NONE, "
            + "public static final int NOT, public static final int OUTSIDE, public static final int UNKNOWN]");
        Constructor<?>[] constructors = MoreHands.class.getDeclaredConstructors();
        Due.is("constructors", constructors.length, 1);
        holds("public MoreHands()", Modifier.isPublic(constructors[0].getModifiers())
            && constructors[0].getParameterCount() == 0);
        holds("public final class", Modifier.toString(MoreHands.class.getModifiers()).equals("public final"));
    }

    private static String signature(Method method) {
        StringBuilder all = new StringBuilder();
        for (Class<?> type : method.getParameterTypes()) {
            all.append(all.length() == 0 ? "" : ", ").append(type);
        }
        return method.getReturnType() + " " + method.getName() + "(" + all + ")";
    }

    private static void classesInside() {
        Class<?>[] inside = MoreHands.class.getDeclaredClasses();
        holds("at most some twelve classes", inside.length < 12);
        for (Class<?> each : inside) {
            int m = each.getModifiers();
            holds(each + " is static and not public", Modifier.isStatic(m) && !Modifier.isPublic(m));
            int fields = 0;
            for (Field field : each.getDeclaredFields()) {
                int f = field.getModifiers();
                fields += Modifier.isStatic(f) ? 0 : 1;
                holds(field + ": static ones are final", !Modifier.isStatic(f) || Modifier.isFinal(f));
            }
            holds(each + " has some twenty fields at most", fields <= 20);
            for (Method method : each.getDeclaredMethods()) {
                holds(method + " takes seven at most", method.getParameterCount() <= 7);
            }
        }
    }

    private static void text(String source) {
        String code = source.replaceAll("(?s)/\\*.*?\\*/", " ").replaceAll("//[^\n]*", " ");
        for (String word : FORBIDDEN) {
            holds("the word " + word, !Pattern.compile("\\b" + Pattern.quote(word) + "\\b").matcher(code).find());
        }
        for (String sign : new String[] {"->", "::", "Exact", "static {", "while (true)", "for (;;)"}) {
            holds("the sign " + sign, !code.contains(sign));
        }
        for (String line : code.split("\n")) {
            holds(line, !line.startsWith("import") || line.trim().matches(IMPORTS));
        }
        Matcher method = Pattern.compile("(?m)^( +)(?:[\\w<>\\[\\]]+ )*\\w+\\([^;{}]*\\) \\{$(?s:(.*?))^\\1\\}$").matcher(code);
        int found = 0;
        while (method.find()) {
            found++;
            int lines = method.group(2).split("\n").length;
            holds("a method has some sixty lines at most: " + method.group().split("\n")[0], lines <= 60);
        }
        holds("methods are found", found > 15);
        for (int i = 0; i < source.length(); i++) {
            if (source.charAt(i) > 127) {
                holds("sign " + (int) source.charAt(i), false);
            }
        }
    }

    private static void holds(String what, boolean so) {
        Due.is(what, so ? 1 : 0, 1);
    }
}

import java.io.IOException;
import java.lang.reflect.Method;
import java.lang.reflect.Modifier;
import java.nio.file.Files;
import java.nio.file.Path;
import java.util.Map;
import java.util.Set;
import java.util.TreeMap;
import java.util.TreeSet;
import java.util.regex.Matcher;
import java.util.regex.Pattern;

/**
 * README.md's examples answer what stands behind them, show every call, and its list of tests is whole.
 * An example is a line with calls of x; the number that begins its comment is the last call's answer.
 */
public final class ReadmeTest {
    private static final Checks C = new Checks();
    private static final Pattern CALL = Pattern.compile("x\\.(\\w+)\\(([^)]*)\\);");
    private static final Pattern ANSWER = Pattern.compile("// (-?\\d+)\\b");
    private static final Map<String, Method> FACE = new TreeMap<>();
    private static final Set<String> SHOWN = new TreeSet<>();

    public static void main(String[] args) throws IOException, ReflectiveOperationException {
        for (Method m : WhoPrompts.class.getDeclaredMethods()) {
            if (Modifier.isPublic(m.getModifiers())) {
                FACE.put(m.getName(), m);
            }
        }
        String readme = Files.readString(Path.of("README.md"));
        examples(readme);
        C.holds("every call is shown, but " + missing(), missing().isEmpty());
        testsAreNamed(readme);
        C.finish();
    }

    private static void examples(String readme) throws ReflectiveOperationException {
        WhoPrompts x = new WhoPrompts();
        boolean code = false;
        for (String line : readme.split("\n")) {
            if (line.startsWith("```")) {
                code = line.equals("```java");
            } else if (code && line.contains("new WhoPrompts()")) {
                x = new WhoPrompts();
            } else if (code && !line.isBlank()) {
                example(x, line);
            }
        }
    }

    private static void example(WhoPrompts x, String line) throws ReflectiveOperationException {
        Matcher call = CALL.matcher(line.split(" // ")[0]);
        long got = 0;
        boolean any = false;
        while (call.find()) {
            got = ask(x, call.group(1), call.group(2));
            any = true;
        }
        Matcher answer = ANSWER.matcher(line);
        boolean told = answer.find();
        C.holds("README has a call and its answer: " + line, any && told);
        if (any && told) {
            C.due("README: " + line, got, Long.parseLong(answer.group(1)));
        }
    }

    private static long ask(WhoPrompts x, String name, String given) throws ReflectiveOperationException {
        Method method = FACE.get(name);
        String[] words = given.isEmpty() ? new String[0] : given.split(", ");
        Object[] values = new Object[words.length];
        for (int k = 0; k < words.length; k++) {
            long v = words[k].startsWith("'") ? words[k].charAt(1) : Long.parseLong(words[k]);
            values[k] = method.getParameterTypes()[k] == long.class ? (Object) v : (Object) (int) v;
        }
        SHOWN.add(name);
        return ((Number) method.invoke(x, values)).longValue();
    }

    private static Set<String> missing() {
        Set<String> left = new TreeSet<>(FACE.keySet());
        left.removeAll(SHOWN);
        return left;
    }

    private static void testsAreNamed(String readme) throws IOException {
        try (var files = Files.list(Path.of("src/test/java"))) {
            files.map(f -> f.getFileName().toString()).filter(f -> f.endsWith("Test.java")).sorted().forEach(f ->
                C.holds("README names " + f, readme.contains("`" + f.replace(".java", "") + "`")));
        }
    }
}

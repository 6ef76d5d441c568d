import java.lang.reflect.Method;
import java.nio.file.Files;
import java.nio.file.Path;
import java.util.regex.Matcher;
import java.util.regex.Pattern;
import java.util.stream.Stream;

/** README.md: its calls answer as it says, and it tells of each call, each class inside and each test. */
public final class ReadmeTest {
    private static final Pattern CALL = Pattern.compile("x\\.(\\w+)\\((.*?)\\);\\s*// (-?\\d+|true|false)(:.*)?");
    private static final Due DUE = new Due();

    public static void main(String[] args) throws Exception {
        Path main = Path.of(args.length > 0 ? args[0] : "src/main/java/TeaCabinet.java").toAbsolutePath();
        Path root = main.resolve("../../../..").normalize();
        String readme = Files.readString(root.resolve("README.md"));
        DUE.is("calls in the example", example(readme) > 10, true);
        for (Method m : TeaCabinet.class.getDeclaredMethods()) {
            if ((m.getModifiers() & java.lang.reflect.Modifier.PUBLIC) != 0) told(readme, m.getName());
        }
        for (Class<?> c : TeaCabinet.class.getDeclaredClasses()) told(readme, c.getSimpleName());
        try (Stream<Path> tests = Files.list(root.resolve("src/test/java"))) {
            tests.map(p -> p.getFileName().toString()).filter(n -> n.endsWith("Test.java"))
                .forEach(n -> told(readme, n.substring(0, n.length() - 5)));
        }
        DUE.finish();
    }

    private static void told(String readme, String name) {
        DUE.is("README.md tells of " + name, readme.contains("`" + name + "`"), true);
    }

    /** Makes the calls of the example one by one; answers how many there are. */
    private static int example(String readme) throws Exception {
        int from = readme.indexOf("```java\n") + 8;
        int calls = 0;
        TeaCabinet x = null;
        for (String line : readme.substring(from, readme.indexOf("```", from)).split("\n")) {
            if (line.startsWith("TeaCabinet x = new TeaCabinet();")) {
                x = new TeaCabinet();
                continue;
            }
            Matcher call = CALL.matcher(line);
            boolean whole = call.matches();
            DUE.is("a call with its answer: " + line, whole, true);
            if (!whole) continue;
            String answer = answer(x, call);
            DUE.is(line + " -> " + answer, answer.equals(call.group(3)), true);
            calls++;
        }
        return calls;
    }

    private static String answer(TeaCabinet x, Matcher call) throws Exception {
        String[] words = call.group(2).isEmpty() ? new String[0] : call.group(2).split(", ");
        Object[] numbers = Stream.of(words).map(w -> (Object) Integer.decode(w)).toArray();
        for (Method m : TeaCabinet.class.getDeclaredMethods()) {
            if (!m.getName().equals(call.group(1)) || m.getParameterCount() != numbers.length) continue;
            return String.valueOf(m.invoke(x, numbers));
        }
        return "no such call";
    }
}

import java.lang.reflect.Method;
import java.lang.reflect.Modifier;
import java.nio.file.Files;
import java.nio.file.Path;
import java.util.Arrays;
import java.util.regex.Matcher;
import java.util.regex.Pattern;

/** That the calls in README.md answer what stands behind them there, and that it names every call. */
public final class ReadmeTest extends Asked {
    private static final Path README = Path.of("README.md");
    private static final Pattern EXAMPLE = Pattern.compile("```java\n(.*?)```", Pattern.DOTALL);
    private static final Pattern CALL = Pattern.compile("heap\\.(\\w+)\\(([^)]*)\\);\\s*// (-?\\w+)(?::.*)?");

    private static int number(String text) {
        return text.equals("TreadRing.NONE") ? NONE : Integer.decode(text);
    }

    private static String answer(TreadRing heap, String name, String arguments) throws Exception {
        Object[] numbers = Arrays.stream(arguments.split(",")).map(String::strip).filter(a -> !a.isEmpty())
                .map(ReadmeTest::number).toArray();
        Class<?>[] types = new Class<?>[numbers.length];
        Arrays.fill(types, int.class);
        return String.valueOf(TreadRing.class.getMethod(name, types).invoke(heap, numbers));
    }

    /** All examples are of one object, one behind another. */
    private static void examples(String readme) throws Exception {
        TreadRing heap = new TreadRing();
        Matcher example = EXAMPLE.matcher(readme);
        while (example.find()) {
            for (String line : example.group(1).strip().split("\n")) {
                Matcher call = CALL.matcher(line);
                boolean isCall = call.matches();
                due("a call with its answer, or the new object: " + line, isCall || line.startsWith("TreadRing heap = new TreadRing();"), true);
                if (isCall) {
                    due(line, answer(heap, call.group(1), call.group(2)).equals(call.group(3)), true);
                }
            }
        }
    }

    private static void names(String readme) {
        for (Method method : TreadRing.class.getDeclaredMethods()) {
            if (Modifier.isPublic(method.getModifiers())) {
                due("README.md names " + method.getName(), readme.contains("`" + method.getName() + "`"), true);
            }
        }
        due("README.md says how to run the tests", readme.contains(".ci/run"), true);
    }

    public static void main(String[] args) throws Exception {
        String readme = Files.readString(README);
        examples(readme);
        names(readme);
        tell();
    }
}

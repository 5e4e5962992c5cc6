import java.io.IOException;
import java.lang.reflect.InvocationTargetException;
import java.lang.reflect.Method;
import java.lang.reflect.Modifier;
import java.nio.file.Files;
import java.nio.file.Path;
import java.util.List;
import java.util.regex.Matcher;
import java.util.regex.Pattern;
import java.util.stream.Collectors;
import java.util.stream.Stream;

/** README.md: its calls answer what it says, and it names every call, class and test. */
public final class ReadmeTest {
    private static final Path README = Path.of("README.md");
    private static final Path TESTS = Path.of("src/test/java");
    private static final Pattern CALL = Pattern.compile("canal\\.(\\w+)\\((.*)\\); +// (-?\\d+): .+");
    private static final Check CHECK = new Check();

    public static void main(String[] args) throws IOException, ReflectiveOperationException {
        String text = Files.readString(README);
        exampleAnswersAsTold(text);
        everyNameStandsThere(text);
        CHECK.end();
    }

    private static void exampleAnswersAsTold(String text) throws ReflectiveOperationException {
        int from = text.indexOf("```java");
        int to = text.indexOf("```", from + 3);
        CHECK.holds("there is an example", from >= 0 && to > from);
        CanalCompany canal = new CanalCompany();
        int calls = 0;
        for (String line : text.substring(Math.max(0, from), Math.max(0, to)).split("\n")) {
            if (line.startsWith("canal.")) {
                Matcher m = CALL.matcher(line);
                CHECK.holds("no call with its answer: " + line, m.matches());
                if (m.matches()) {
                    CHECK.due(line, answer(canal, m.group(1), m.group(2)), Long.parseLong(m.group(3)));
                    calls++;
                }
            }
        }
        CHECK.holds("the example has calls", calls > 30);
    }

    private static long answer(CanalCompany canal, String name, String told)
            throws IllegalAccessException, InvocationTargetException {
        List<String> words = told.isEmpty() ? List.of() : List.of(told.split(", "));
        for (Method m : CanalCompany.class.getMethods()) {
            if (m.getName().equals(name) && m.getParameterCount() == words.size()) {
                Object[] args = new Object[words.size()];
                for (int i = 0; i < args.length; i++) {
                    args[i] = valueOf(m.getParameterTypes()[i], words.get(i));
                }
                return ((Number) m.invoke(canal, args)).longValue();
            }
        }
        CHECK.holds("there is no call " + name + " with " + words.size() + " arguments", false);
        return 0;
    }

    private static Object valueOf(Class<?> type, String word) {
        if (type == boolean.class) {
            return Boolean.valueOf(word);
        }
        return type == long.class ? (Object) Long.decode(word.replace("L", "")) : Integer.decode(word);
    }

    private static void everyNameStandsThere(String text) throws IOException {
        for (Method m : CanalCompany.class.getDeclaredMethods()) {
            if (Modifier.isPublic(m.getModifiers())) {
                named(text, m.getName());
            }
        }
        for (Class<?> each : CanalCompany.class.getDeclaredClasses()) {
            named(text, each.getSimpleName());
        }
        try (Stream<Path> files = Files.list(TESTS)) {
            for (Path file : files.collect(Collectors.toList())) {
                named(text, file.getFileName().toString().replace(".java", ""));
            }
        }
        CHECK.holds("how the tests are run", text.contains("\n    .ci/run\n"));
        CHECK.holds(".ci/run can be run", Files.isExecutable(Path.of(".ci/run")));
    }

    private static void named(String text, String name) {
        CHECK.holds("README.md does not name " + name, text.contains("`" + name + "`"));
    }
}

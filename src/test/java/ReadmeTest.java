import java.io.IOException;
import java.lang.reflect.InvocationTargetException;
import java.lang.reflect.Method;
import java.lang.reflect.Modifier;
import java.nio.file.Files;
import java.nio.file.Path;
import java.util.Arrays;
import java.util.List;
import java.util.regex.Matcher;
import java.util.regex.Pattern;
import java.util.stream.Stream;

/** README.md: its example answers what it says, and it lists each call of the face and each test. */
public final class ReadmeTest {
    private static final Path PAGE = Path.of("README.md");
    private static final Path TESTS = Path.of("src/test/java");
    private static final Pattern CALL = Pattern.compile("x\\.(\\w+)\\((.*?)\\);\\s*// (throws )?([\\w-]+).*");
    private static final Pattern LISTED = Pattern.compile("\\| `(\\w+)\\((.*?)\\)` \\|.*");
    private static final Check check = new Check();

    public static void main(String[] args) throws IOException, IllegalAccessException {
        List<String> lines = Files.readAllLines(PAGE);
        example(lines);
        calls(lines);
        tests(lines);
        check.end();
    }

    private static void example(List<String> lines) throws IllegalAccessException {
        MovingBanks x = new MovingBanks();
        int run = 0;
        for (String line : lines) {
            if (line.startsWith("x.")) {
                Matcher m = CALL.matcher(line);
                boolean isCall = m.matches();
                check.due("'" + line + "' is a call with its answer", isCall, true);
                if (isCall) {
                    String got = answer(x, m.group(1), m.group(2).split(", "));
                    String want = m.group(4).equals("NONE") ? "-1" : m.group(4);
                    check.due("'" + line + "' (got " + got + ")", got.equals(want), true);
                    run++;
                }
            }
        }
        check.due("the example has calls", run > 0, true);
    }

    private static String answer(MovingBanks x, String name, String[] given) throws IllegalAccessException {
        Method call = face().filter(m -> m.getName().equals(name)).findFirst().orElseThrow();
        Object[] values = new Object[given.length];
        for (int i = 0; i < given.length; i++) {
            boolean isBoolean = call.getParameterTypes()[i] == boolean.class;
            values[i] = isBoolean ? (Object) Boolean.valueOf(given[i]) : (Object) Integer.valueOf(given[i]);
        }
        try {
            return String.valueOf(call.invoke(x, values));
        } catch (InvocationTargetException e) {
            return e.getCause().getClass().getSimpleName();
        }
    }

    private static void calls(List<String> lines) {
        List<Matcher> listed = lines.stream().map(LISTED::matcher).filter(Matcher::matches).toList();
        face().forEach(call -> {
            long times = listed.stream().filter(m -> m.group(1).equals(call.getName())
                    && m.group(2).split(", ").length == call.getParameterCount()).count();
            check.due(call.getName() + " with its parameters is listed", times, 1);
        });
        check.due("no other call is listed", listed.size(), face().count());
    }

    private static void tests(List<String> lines) throws IOException {
        try (Stream<Path> files = Files.list(TESTS)) {
            files.map(f -> f.getFileName().toString().replace(".java", ""))
                    .filter(name -> name.endsWith("Test") && !name.startsWith("Promise"))
                    .forEach(name -> check.due(name + " is listed",
                            lines.stream().anyMatch(line -> line.startsWith("| " + name + " |")), true));
        }
        check.due("how the tests are run", lines.stream().anyMatch(line -> line.contains("`.ci/run`")), true);
    }

    private static Stream<Method> face() {
        return Arrays.stream(MovingBanks.class.getDeclaredMethods()).filter(m -> Modifier.isPublic(m.getModifiers()));
    }
}

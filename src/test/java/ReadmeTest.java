import java.lang.reflect.Method;
import java.lang.reflect.Modifier;
import java.nio.file.DirectoryStream;
import java.nio.file.Files;
import java.nio.file.Path;
import java.util.List;
import java.util.regex.Matcher;
import java.util.regex.Pattern;

/**
 * What README.md says: its example's calls answer as is written behind them, each call of the face stands in
 * it, and so does each test. It is run from the project's root, as .ci/run does.
 */
public final class ReadmeTest {
    /** A line as: x.cost(0, 0);   // 7: why; another that begins with x. or feed( is refused. */
    private static final Pattern CALL = Pattern.compile("x\\.([a-z]+)\\(([^()]*)\\); +// (-?[0-9]+|true|false)\\b.*");
    private static final Pattern FEED = Pattern.compile("feed\\(x, \"([^\"]*)\"\\);");

    private ReadmeTest() {
    }

    public static void main(String[] args) throws Exception {
        List<String> lines = Files.readAllLines(Path.of("README.md"));
        example(lines);
        String whole = String.join("\n", lines);
        for (Method method : DrownedCave.class.getDeclaredMethods()) {
            if (Modifier.isPublic(method.getModifiers())) {
                Probe.due("README.md has " + method.getName(), whole.contains("`" + method.getName() + "`"), true);
            }
        }
        try (DirectoryStream<Path> files = Files.newDirectoryStream(Path.of("src/test/java"), "*Test.java")) {
            for (Path file : files) {
                String name = file.getFileName().toString().replace(".java", "");
                Probe.due("README.md has " + name, whole.contains("`" + name + "`"), true);
            }
        }
        Probe.due("README.md says what runs the tests", whole.contains(".ci/run"), true);
        Probe.close();
    }

    private static void example(List<String> lines) throws Exception {
        DrownedCave x = new DrownedCave();
        int calls = 0;
        int feeds = 0;
        for (String line : lines) {
            Matcher feed = FEED.matcher(line);
            Matcher call = CALL.matcher(line);
            if (feed.matches()) {
                feeds++;
                Probe.feed(x, feed.group(1));
            } else if (call.matches()) {
                calls++;
                Probe.due("README.md: " + line, answer(x, call.group(1), call.group(2)), call.group(3).equals("true") ? 1
                    : call.group(3).equals("false") ? 0 : Long.parseLong(call.group(3)));
            } else {
                Probe.due("README.md: a call that is not read: " + line, line.startsWith("x.") || line.startsWith("feed("), false);
            }
        }
        Probe.due("README.md feeds a cave and a dive", feeds, 2);
        Probe.due("README.md has calls", calls >= 10, true);
    }

    private static long answer(DrownedCave x, String name, String arguments) throws Exception {
        for (Method method : DrownedCave.class.getMethods()) {
            if (method.getName().equals(name)) {
                String[] texts = arguments.isEmpty() ? new String[0] : arguments.split(", ");
                Object[] given = new Object[texts.length];
                for (int i = 0; i < texts.length; i++) {
                    given[i] = method.getParameterTypes()[i] == boolean.class ? (Object) Boolean.valueOf(texts[i])
                        : (Object) Integer.valueOf(texts[i]);
                }
                Object got = method.invoke(x, given);
                return got instanceof Boolean ? (boolean) got ? 1 : 0 : ((Number) got).longValue();
            }
        }
        throw new IllegalArgumentException(name);
    }
}

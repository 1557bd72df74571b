import java.io.IOException;
import java.lang.reflect.InvocationTargetException;
import java.lang.reflect.Method;
import java.nio.file.Files;
import java.nio.file.Path;
import java.util.HashMap;
import java.util.Map;
import java.util.regex.Matcher;
import java.util.regex.Pattern;
import java.util.stream.Stream;

/** What README.md says that calls answer: its own lines are asked, in their order. */
final class ReadmeTest {
    private static final Checks CHECKS = new Checks();
    /** A call, perhaps kept under a name, and what it answers. */
    private static final Pattern CALL =
        Pattern.compile("(?:int (\\w+) = )?walk\\.(\\w+)\\(([^)]*)\\); +// (-?\\d+|true|false)(?:: .*)?");
    private static final Map<String, Integer> NAMES = new HashMap<>(Map.of("PavementWalk.NONE", -1));

    public static void main(String[] args) throws IOException, ReflectiveOperationException {
        PavementWalk walk = new PavementWalk();
        int asked = 0;
        String page = Files.readString(Path.of("README.md"));
        for (String line : page.split("\n")) {
            Matcher call = CALL.matcher(line);
            if (call.matches()) {
                ask(walk, line, call);
                asked++;
            } else if (line.startsWith("walk.")) {
                CHECKS.due("a call without its answer: " + line, false, true);
            }
        }
        CHECKS.due("README.md has calls", asked > 20, true);
        tellsOfAllTests(page);
        CHECKS.finish("ReadmeTest");
    }

    private static void tellsOfAllTests(String page) throws IOException {
        try (Stream<Path> files = Files.list(Path.of("src/test/java"))) {
            for (Path file : (Iterable<Path>) files::iterator) {
                String name = file.getFileName().toString().replace(".java", "");
                boolean told = !name.endsWith("Test") || page.contains("| `" + name + "` |");
                CHECKS.due("README.md tells of " + name, told, true);
            }
        }
    }

    private static void ask(PavementWalk walk, String line, Matcher call)
            throws IllegalAccessException, InvocationTargetException {
        String[] told = call.group(3).isEmpty() ? new String[0] : call.group(3).split(", ");
        Object[] numbers = new Object[told.length];
        for (int k = 0; k < told.length; k++) {
            numbers[k] = NAMES.containsKey(told[k]) ? NAMES.get(told[k]) : Integer.decode(told[k]);
        }
        Object answer = null;
        for (Method m : PavementWalk.class.getMethods()) {
            if (m.getName().equals(call.group(2)) && m.getParameterCount() == numbers.length) {
                answer = m.invoke(walk, numbers);
            }
        }
        CHECKS.due(line + " answered " + answer, call.group(4).equals(String.valueOf(answer)), true);
        if (call.group(1) != null && answer instanceof Integer) {
            NAMES.put(call.group(1), (Integer) answer);
        }
    }
}

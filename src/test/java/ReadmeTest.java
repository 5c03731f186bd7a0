import java.io.IOException;
import java.lang.reflect.Method;
import java.lang.reflect.Modifier;
import java.nio.file.Files;
import java.nio.file.Path;
import java.util.HashMap;
import java.util.List;
import java.util.Map;
import java.util.regex.Matcher;
import java.util.regex.Pattern;
import java.util.stream.Collectors;
import java.util.stream.Stream;

/** README.md: its example answers what stands behind each call; calls and tests are all named. */
public final class ReadmeTest {
    private static final Pattern MADE = Pattern.compile("CareTours care = new CareTours\\((\\d+)\\);.*");
    private static final Pattern CALL =
        Pattern.compile("(?:int (\\w+) = )?care\\.(\\w+)\\((.*?)\\); +// (-?\\d+).*");

    public static void main(String[] args) throws IOException {
        String readme = Files.readString(Path.of("README.md"));
        playExample(readme);
        namesEachCall(readme);
        namesEachTest(readme);
        Run.end();
    }

    private static void playExample(String readme) {
        String begin = "```java\n";
        int from = readme.indexOf(begin) + begin.length();
        List<String> lines = readme.substring(from, readme.indexOf("```", from)).lines().toList();
        Matcher made = matched(MADE, lines.get(0));
        CareTours care = new CareTours(Integer.parseInt(made.group(1)));
        Map<String, Integer> names = new HashMap<>();
        for (String line : lines.subList(1, lines.size())) {
            playLine(care, names, line);
        }
    }

    private static void playLine(CareTours care, Map<String, Integer> names, String line) {
        Matcher call = matched(CALL, line);
        int[] numbers = Stream.of(call.group(3).split(", *")).filter(word -> !word.isEmpty())
            .mapToInt(word -> names.containsKey(word) ? names.get(word) : Integer.parseInt(word)).toArray();
        Run.report("README.md: " + line, Calls.answer(care, call.group(2), numbers), call.group(4));
        if (call.group(1) != null) {
            names.put(call.group(1), Integer.parseInt(call.group(4)));
        }
    }

    private static Matcher matched(Pattern form, String line) {
        Matcher matcher = form.matcher(line);
        if (!matcher.matches()) {
            throw new AssertionError("README.md has a line of another form: " + line);
        }
        return matcher;
    }

    private static void namesEachCall(String readme) {
        String tables = readme.lines().filter(line -> line.startsWith("|")).collect(Collectors.joining("\n"));
        for (Method method : CareTours.class.getDeclaredMethods()) {
            if (Modifier.isPublic(method.getModifiers())) {
                boolean named = Pattern.compile("`" + method.getName() + "\\b").matcher(tables).find();
                Run.report("README.md names " + method.getName(), Boolean.toString(named), "true");
            }
        }
    }

    private static void namesEachTest(String readme) throws IOException {
        try (Stream<Path> files = Files.list(Path.of("src/test/java"))) {
            for (Path file : files.toList()) {
                String name = file.getFileName().toString().replace(".java", "");
                boolean named = !name.endsWith("Test") || readme.contains("| `" + name + "` |");
                Run.report("README.md names " + name, Boolean.toString(named), "true");
            }
        }
    }
}

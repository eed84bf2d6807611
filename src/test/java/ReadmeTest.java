import java.lang.reflect.Method;
import java.nio.file.Files;
import java.nio.file.Path;
import java.util.HashMap;
import java.util.List;
import java.util.Map;
import java.util.regex.Matcher;
import java.util.regex.Pattern;
import java.util.stream.Collectors;
import java.util.stream.Stream;

/** README.md as it stands: its calls answer what stands behind them, and it names every file of the tests. */
public final class ReadmeTest extends Checks {
    private static final Pattern CALL = Pattern.compile("(?:int (\\w+) = )?x\\.(\\w+)\\(([^)]*)\\);\\s+// (-?\\d+)(?::.*)?");
    private static final Pattern FED = Pattern.compile("for \\(char letter : \"([^\"]*)\"\\.toCharArray\\(\\)\\) x\\.feed\\(letter\\);");
    private static final Pattern NAMED = Pattern.compile("src/test/java/\\w+\\.java");

    public static void main(String[] args) throws Exception {
        String readme = Files.readString(Path.of("README.md"));
        example(readme);
        names(readme);
        close("README.md tells what is so");
    }

    private static void example(String readme) throws Exception {
        Matcher block = Pattern.compile("(?s)```java\n(.*?)```").matcher(readme);
        due("README.md has an example", block.find() ? 1 : 0, 1);
        SchoolOnRaft x = new SchoolOnRaft();
        Map<String, Integer> known = new HashMap<>();
        int calls = 0;
        for (String line : block.group(1).split("\n")) {
            Matcher call = CALL.matcher(line);
            Matcher fed = FED.matcher(line);
            if (call.matches()) {
                calls++;
                int got = answer(x, call.group(2), call.group(3), known);
                due(line, got, Integer.parseInt(call.group(4)));
                known.put(call.group(1), got);
            } else if (fed.matches()) {
                tape(x, fed.group(1));
            } else {
                due("understood: " + line, isQuiet(line) ? 1 : 0, 1);
            }
        }
        due("the example has calls", calls > 20 ? 1 : 0, 1);
    }

    private static boolean isQuiet(String line) {
        return line.isEmpty() || line.startsWith("// ") || line.equals("SchoolOnRaft x = new SchoolOnRaft();");
    }

    private static int answer(SchoolOnRaft x, String name, String told, Map<String, Integer> known) throws Exception {
        String[] parts = told.isEmpty() ? new String[0] : told.split(", ");
        Object[] values = new Object[parts.length];
        Class<?>[] types = new Class<?>[parts.length];
        for (int k = 0; k < parts.length; k++) {
            values[k] = known.containsKey(parts[k]) ? known.get(parts[k]) : Integer.valueOf(parts[k]);
            types[k] = int.class;
        }
        Method method = SchoolOnRaft.class.getMethod(name, types);
        return (Integer) method.invoke(x, values);
    }

    private static void names(String readme) throws Exception {
        List<String> there;
        try (Stream<Path> files = Files.list(Path.of("src/test/java"))) {
            there = files.map(file -> "src/test/java/" + file.getFileName()).sorted().collect(Collectors.toList());
        }
        for (String file : there) {
            due("README.md names " + file, readme.contains("`" + file + "`") ? 1 : 0, 1);
        }
        Matcher named = NAMED.matcher(readme);
        while (named.find()) {
            due("there is " + named.group(), there.contains(named.group()) ? 1 : 0, 1);
        }
    }
}

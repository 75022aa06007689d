import java.io.IOException;
import java.lang.reflect.Method;
import java.lang.reflect.Modifier;
import java.nio.file.Files;
import java.nio.file.Path;
import java.util.HashMap;
import java.util.List;
import java.util.Map;
import java.util.regex.Matcher;
import java.util.regex.Pattern;
import java.util.stream.Collectors;
import java.util.stream.Stream;

/**
 * README.md says how to use the class and how to run its tests: its examples answer as their
 * comments say, each call stands in its table, each test in its list.
 */
public final class RailPowerReadme {
    private static final Pattern CALL = Pattern.compile("line\\.(\\w+)\\((.*)\\); +// (\\S+).*");
    private static final Pattern ROW = Pattern.compile("\\| `(\\w+)\\((.*)\\)` \\| .+ \\|");
    private static final Map<String, Method> METHODS = new HashMap<>();

    private static int wrong = 0;
    private static int answered = 0;

    public static void main(String[] args) throws IOException, ReflectiveOperationException {
        for (Method method : RailPower.class.getDeclaredMethods()) {
            if (Modifier.isPublic(method.getModifiers())) {
                METHODS.put(method.getName(), method);
            }
        }
        List<String> rows = Files.readAllLines(Path.of("README.md"));
        examples(rows);
        table(rows);
        tests(String.join("\n", rows));
        System.out.println(wrong == 0 ? answered + " examples answer as README.md says" : wrong + " faults");
        if (wrong != 0) {
            System.exit(1);
        }
    }

    private static void check(boolean holds, String what) {
        if (!holds) {
            wrong++;
            System.out.println(what);
        }
    }

    private static void examples(List<String> rows) throws ReflectiveOperationException {
        boolean inExample = false;
        RailPower line = null;
        for (String row : rows) {
            if (row.startsWith("```")) {
                inExample = row.equals("```java");
            } else if (inExample && row.equals("RailPower line = new RailPower();")) {
                line = new RailPower();
            } else if (inExample) {
                Matcher call = CALL.matcher(row);
                check(call.matches() && line != null, "no call with its answer: " + row);
                if (call.matches() && line != null) {
                    long got = answer(line, METHODS.get(call.group(1)), call.group(2));
                    check(got == number(call.group(3)), row + " (answered " + got + ")");
                    answered++;
                }
            }
        }
        check(answered > 0, "no examples");
    }

    private static long answer(RailPower line, Method method, String told) throws ReflectiveOperationException {
        Object[] arguments = Stream.of(told.split(", ")).filter(word -> !word.isEmpty()).map(Integer::valueOf).toArray();
        return ((Number) method.invoke(line, arguments)).longValue();
    }

    private static long number(String word) throws ReflectiveOperationException {
        if (word.matches("-?\\d+")) {
            return Long.parseLong(word);
        }
        return ((Number) RailPower.class.getField(word).get(null)).longValue();
    }

    private static void table(List<String> rows) {
        Map<String, Long> told = rows.stream().map(ROW::matcher).filter(Matcher::matches)
                .collect(Collectors.toMap(row -> row.group(1),
                        row -> Stream.of(row.group(2).split(", ")).filter(word -> !word.isEmpty()).count()));
        Map<String, Long> due = METHODS.values().stream()
                .collect(Collectors.toMap(Method::getName, method -> (long) method.getParameterCount()));
        check(told.equals(due), "the table has " + told + ", the class " + due);
    }

    private static void tests(String text) throws IOException {
        check(text.contains("\n.ci/run\n"), ".ci/run is not told");
        check(text.contains("../shared/tests"), "../shared/tests is not told");
        try (Stream<Path> files = Files.list(Path.of("src/test/java"))) {
            files.forEach(file -> check(text.contains("`" + file + "`"), "not told: " + file));
        }
    }
}

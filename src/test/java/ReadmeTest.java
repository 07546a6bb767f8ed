import java.io.IOException;
import java.nio.file.Files;
import java.nio.file.Path;
import java.util.ArrayList;
import java.util.LinkedHashMap;
import java.util.LinkedHashSet;
import java.util.List;
import java.util.Map;
import java.util.Set;
import java.util.TreeSet;
import java.util.regex.Matcher;
import java.util.regex.Pattern;

/** What README.md says of calls and answers: its examples are run, its tables compared with the document. */
public final class ReadmeTest {
    private static final Pattern BLOCK = Pattern.compile("(?s)```java\n(.*?)```");
    private static final Pattern EXAMPLE = Pattern.compile("bundle\\.(\\w+\\([^()]*\\)); +// (-?\\w+): \\S.*");
    private static final String NEW_BUNDLE = "PointAnswers bundle = new PointAnswers();";
    private static final Pattern CALL_ROW = Pattern.compile("(?m)^\\| `(\\w+\\([^)]*\\))` \\|[^|]+\\|[^|]+\\|([^|]*)\\|$");
    private static final Pattern CONSTANT_ROW = Pattern.compile("(?m)^\\| `([A-Z_]+)` \\| (-?\\d+) \\|[^|]+\\|$");
    private static final Pattern PROMISE = Pattern.compile("(?s)`int (\\w+\\([^)]*\\))`: (.*?)(?=\n## )");
    private static final Pattern ERROR_IF = Pattern.compile("([A-Z]+_?[A-Z]+) if ");
    private static final Pattern IN_TICKS = Pattern.compile("`([A-Z_]+)`");
    private static final Pattern TEST = Pattern.compile("(?m)^- `(\\w+Test)`");

    private static int passed = 0;
    private static int failed = 0;

    public static void main(String[] args) throws IOException, ReflectiveOperationException {
        String readme = Files.readString(Path.of("README.md"));
        String document = Files.readString(Path.of("../shared/DOC.md"));
        examples(readme);
        calls(readme, document);
        constants(readme);
        tests(readme);
        System.out.println("ReadmeTest: " + passed + " passed, " + failed + " failed");
        if (failed != 0) {
            System.exit(1);
        }
    }

    private static void check(String what, boolean holds) {
        if (holds) {
            passed++;
        } else {
            failed++;
            System.out.println("README.md: " + what);
        }
    }

    private static void examples(String readme) {
        Matcher block = BLOCK.matcher(readme);
        int blocks = 0;
        while (block.find()) {
            blocks++;
            String[] lines = block.group(1).split("\n");
            check("a block begins with a new bundle, not " + lines[0], lines[0].equals(NEW_BUNDLE));
            Asked asked = new Asked();
            for (int i = 1; i < lines.length; i++) {
                example(asked, lines[i]);
            }
        }
        check("there are examples", blocks > 0);
    }

    private static void example(Asked asked, String line) {
        Matcher row = EXAMPLE.matcher(line);
        if (!row.matches()) {
            check("no call with its answer: " + line, false);
            return;
        }
        long due = Asked.number(row.group(2));
        int answer = asked.ask(inNumbers(row.group(1)));
        check(row.group(1) + " answers " + answer + ", not " + due, answer == due);
    }

    private static String inNumbers(String call) {
        return call.replaceAll("\\b(0x[0-9A-F]+)L\\b", "$1")
            .replace("PointAnswers.LAPSE", "0").replace("PointAnswers.PAGES", "1");
    }

    /** The table names each call of the document, with its errors (and NONE) in their order. */
    private static void calls(String readme, String document) {
        Map<String, List<String>> due = new LinkedHashMap<>();
        Matcher promise = PROMISE.matcher(document);
        while (promise.find()) {
            String head = promise.group(1).replaceAll("(int|long) ", "");
            due.put(head, found(ERROR_IF, promise.group(2)));
        }
        check("the document has 23 calls, not " + due.size(), due.size() == 23);
        Map<String, List<String>> told = new LinkedHashMap<>();
        Matcher row = CALL_ROW.matcher(readme);
        while (row.find()) {
            check(row.group(1) + " has one row", told.put(row.group(1), found(IN_TICKS, row.group(2))) == null);
        }
        check("the calls are " + due.keySet() + ", not " + told.keySet(), due.keySet().equals(told.keySet()));
        for (Map.Entry<String, List<String>> call : due.entrySet()) {
            List<String> errors = told.getOrDefault(call.getKey(), List.of());
            check(call.getKey() + " fails by " + call.getValue() + ", not " + errors, call.getValue().equals(errors));
        }
    }

    private static List<String> found(Pattern pattern, String text) {
        List<String> all = new ArrayList<>();
        Matcher matcher = pattern.matcher(text);
        while (matcher.find()) {
            all.add(matcher.group(1));
        }
        return all;
    }

    private static void constants(String readme) throws ReflectiveOperationException {
        Set<String> due = new TreeSet<>();
        for (java.lang.reflect.Field field : PointAnswers.class.getFields()) {
            due.add(field.getName());
        }
        Set<String> told = new TreeSet<>();
        Matcher row = CONSTANT_ROW.matcher(readme);
        while (row.find()) {
            told.add(row.group(1));
            if (due.contains(row.group(1))) {
                int value = PointAnswers.class.getField(row.group(1)).getInt(null);
                check(row.group(1) + " is " + value + ", not " + row.group(2), row.group(2).equals(Integer.toString(value)));
            }
        }
        check("the constants are " + due + ", not " + told, due.equals(told));
    }

    private static void tests(String readme) throws IOException {
        Set<String> due = new TreeSet<>();
        try (var files = Files.list(Path.of("src/test/java"))) {
            files.forEach(file -> due.add(file.getFileName().toString().replace(".java", "")));
        }
        Set<String> told = new LinkedHashSet<>(found(TEST, readme));
        check("the tests are " + due + ", not " + told, due.equals(told));
    }
}

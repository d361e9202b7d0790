import java.lang.reflect.Field;
import java.lang.reflect.Method;
import java.lang.reflect.Modifier;
import java.nio.charset.StandardCharsets;
import java.nio.file.Files;
import java.nio.file.Path;
import java.util.ArrayList;
import java.util.LinkedHashMap;
import java.util.List;
import java.util.Map;
import java.util.regex.Matcher;
import java.util.regex.Pattern;
import java.util.stream.Stream;

/** README.md against the class, the document and the folder of tests: a page that is wrong is worse than none. */
public final class ReadmeTest {
    private static final Path README = Path.of("README.md");
    private static final Path DOCUMENT = Path.of("../shared/DOC.md");
    private static final Path TESTS = Path.of("src/test/java");

    /** In the example: a call, its numbers, and behind it what it answers. */
    private static final Pattern STEP = Pattern.compile("(?m)^x\\.(\\w+)\\(([-\\d, ]*)\\);\\s*// (-?\\d+|[A-Z]+)\\b");
    private static final Pattern CONSTANT = Pattern.compile("(?m)^\\| `([A-Z]+)` = (-\\d+) \\|");
    private static final Pattern CALL = Pattern.compile("(?m)^\\| `(\\w+\\([^)]*\\))` \\|[^|]*\\|([^|]*)\\|$");
    private static final Pattern PROMISE = Pattern.compile("(?m)^`int (\\w+\\([^)]*\\))`: (.*)$");
    private static final Pattern REFUSAL = Pattern.compile("\\b(NONE|BAD|NO|FULL|LARGE|NOTHING|INDEX|SIZE)\\b");

    private static final Due due = new Due("ReadmeTest");

    public static void main(String[] args) throws Exception {
        String page = Files.readString(README, StandardCharsets.UTF_8);
        example(page);
        constants(page);
        calls(page);
        tests(page);
        due.ending();
    }

    private static void example(String page) throws Exception {
        String code = page.substring(page.indexOf("```java"), page.indexOf("```", page.indexOf("```java") + 3));
        NarrowRows rows = new NarrowRows();
        Matcher step = STEP.matcher(code);
        int steps = 0;
        while (step.find()) {
            steps++;
            due.is("the example's " + step.group(), answer(rows, step.group(1), step.group(2)), told(step.group(3)));
        }
        due.is("lines of the example that tell an answer", steps, code.lines().filter(s -> s.startsWith("x.")).count());
        due.holds("there is an example", steps > 0);
    }

    private static int answer(NarrowRows rows, String call, String numbers) throws Exception {
        String[] words = numbers.isBlank() ? new String[0] : numbers.split(",");
        Class<?>[] types = new Class<?>[words.length];
        Object[] values = new Object[words.length];
        for (int i = 0; i < words.length; i++) {
            types[i] = int.class;
            values[i] = Integer.parseInt(words[i].strip());
        }
        return (Integer) NarrowRows.class.getMethod(call, types).invoke(rows, values);
    }

    private static int told(String word) throws Exception {
        return word.matches("[A-Z]+") ? NarrowRows.class.getField(word).getInt(null) : Integer.parseInt(word);
    }

    private static void constants(String page) throws Exception {
        Matcher row = CONSTANT.matcher(page);
        int rows = 0;
        while (row.find()) {
            rows++;
            due.is(row.group(1), Integer.parseInt(row.group(2)), told(row.group(1)));
        }
        Field[] all = NarrowRows.class.getFields();
        due.is("constants of the page", rows, all.length);
    }

    private static void calls(String page) throws Exception {
        Map<String, List<String>> onPage = refusalsBySignature(CALL, page);
        long open = Stream.of(NarrowRows.class.getDeclaredMethods()).map(Method::getModifiers)
                .filter(Modifier::isPublic).count();
        due.is("calls of the page", onPage.size(), open);
        if (!Files.isReadable(DOCUMENT)) {
            System.out.println("ReadmeTest: there is no " + DOCUMENT + " to hold the page against");
            return;
        }
        String document = Files.readString(DOCUMENT, StandardCharsets.UTF_8);
        Map<String, List<String>> promised = refusalsBySignature(PROMISE, document);
        due.is("calls that are promised", promised.size(), open);
        for (Map.Entry<String, List<String>> promise : promised.entrySet()) {
            List<String> told = onPage.get(promise.getKey());
            due.holds(promise.getKey() + " on the page: " + told + ", promised: " + promise.getValue(),
                    promise.getValue().equals(told));
        }
    }

    /** For each call what it may answer below 0, in the order in which that is told. */
    private static Map<String, List<String>> refusalsBySignature(Pattern line, String text) {
        Map<String, List<String>> result = new LinkedHashMap<>();
        Matcher found = line.matcher(text);
        while (found.find()) {
            List<String> refusals = new ArrayList<>();
            Matcher refusal = REFUSAL.matcher(found.group(2));
            while (refusal.find()) {
                refusals.add(refusal.group(1));
            }
            result.put(found.group(1), refusals);
        }
        return result;
    }

    private static void tests(String page) throws Exception {
        try (Stream<Path> files = Files.list(TESTS)) {
            for (Path file : files.sorted().toList()) {
                String name = file.getFileName().toString().replace(".java", "");
                boolean helper = !name.endsWith("Test");
                due.holds("the page names " + name, page.contains(helper ? name : "`" + name + "`"));
            }
        }
    }
}

import java.lang.reflect.Method;
import java.nio.charset.StandardCharsets;
import java.nio.file.Files;
import java.nio.file.Path;
import java.util.LinkedHashMap;
import java.util.List;
import java.util.Map;

/**
 * The tests of sentences against the document itself: what a test says that it holds stands there word
 * for word, and no word of a promise or a term is left that no test holds.
 */
public final class DocumentTest {
    private static final Path DOCUMENT = Path.of("../shared/DOC.md");

    private static final List<Class<? extends Edges>> TESTS = List.of(TermEdgesTest.class, RefusalEdgesTest.class,
            NetEdgesTest.class, RowEdgesTest.class, BagEdgesTest.class, HuntEdgesTest.class);

    /** What the terms say without any boundary: headings of parts, and what the interface says where. */
    private static final String[] FREE = {"All numbers are whole\\.", "======== \\d", "```text", "```",
        "Ahead of the calls [^:]* the interface says: ---- [a-z, ]*\\."};

    private static final Due due = new Due("DocumentTest");

    /** For each heading, up to a colon, what stands below it. */
    private final Map<String, StringBuilder> sections = new LinkedHashMap<>();
    private final Map<String, boolean[]> held = new LinkedHashMap<>();

    public static void main(String[] args) throws Exception {
        if (!Files.isReadable(DOCUMENT)) {
            System.out.println("DocumentTest: there is no " + DOCUMENT + " to hold the tests against");
            return;
        }
        DocumentTest test = new DocumentTest();
        test.read();
        for (Class<? extends Edges> tests : TESTS) {
            for (Method method : Edges.testsOf(tests)) {
                test.hold(tests.getName() + "." + method.getName(), method.getAnnotation(Sentence.class));
            }
        }
        test.nothingIsLeft("Terms");
        for (int promise = 1; promise <= 35; promise++) {
            test.nothingIsLeft("Promise " + promise);
        }
        due.ending();
    }

    private void read() throws Exception {
        StringBuilder section = new StringBuilder();
        for (String line : Files.readString(DOCUMENT, StandardCharsets.UTF_8).split("\n")) {
            if (line.startsWith("## ")) {
                section = new StringBuilder();
                sections.put(line.substring(3).split(":")[0], section);
            } else {
                section.append(line.strip()).append(' ');
            }
        }
        for (String heading : sections.keySet()) {
            held.put(heading, new boolean[sections.get(heading).length()]);
        }
        due.is("promises in the document", sections.keySet().stream().filter(s -> s.startsWith("Promise ")).count(), 35);
    }

    private static boolean isPartOfWord(CharSequence text, int at) {
        return at >= 0 && at < text.length() && Character.isLetterOrDigit(text.charAt(at));
    }

    /** Whether a word ends or begins between two signs of a text. */
    private static boolean partsNoWord(CharSequence text, int at) {
        return !isPartOfWord(text, at - 1) || !isPartOfWord(text, at);
    }

    private void hold(String test, Sentence sentence) {
        StringBuilder text = sections.get(sentence.of());
        due.holds(test + ": the document has " + sentence.of(), text != null);
        if (text == null) {
            return;
        }
        String says = sentence.says();
        int found = 0;
        for (int at = text.indexOf(says); at >= 0; at = text.indexOf(says, at + 1)) {
            if (partsNoWord(text, at) && partsNoWord(text, at + says.length())) {
                found++;
                for (int i = at; i < at + says.length(); i++) {
                    held.get(sentence.of())[i] = true;
                }
            }
        }
        due.holds(test + ": " + sentence.of() + " says \"" + says + "\"", found > 0);
    }

    private void nothingIsLeft(String heading) {
        StringBuilder text = sections.get(heading);
        if (text == null) {
            due.holds("the document has " + heading, false);
            return;
        }
        StringBuilder left = new StringBuilder();
        for (int i = 0; i < text.length(); i++) {
            left.append(held.get(heading)[i] ? '|' : text.charAt(i));
        }
        // ahead of what a promise says stands how the call is written
        String words = left.toString().replaceFirst(heading.startsWith("Promise") ? "^ *`[^`]*`:" : "^", "");
        for (String free : FREE) {
            words = words.replaceAll(free, " ");
        }
        words = words.replaceAll("\\|+", "|");
        due.holds(heading + ": no test holds \"" + words + "\"", words.chars().noneMatch(Character::isLetterOrDigit));
    }
}

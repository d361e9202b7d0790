import java.nio.charset.StandardCharsets;
import java.nio.file.Files;
import java.nio.file.Path;
import java.util.regex.Matcher;
import java.util.regex.Pattern;

/** Those rules of LANGUAGE.md that can be read off the text of the class. */
public final class SourceTest {
    private static final Due due = new Due("SourceTest");

    public static void main(String[] args) throws Exception {
        String text = Files.readString(Path.of("src/main/java/NarrowRows.java"), StandardCharsets.UTF_8);
        String code = text.replaceAll("(?s)/\\*.*?\\*/", " ").replaceAll("//[^\n]*", " ");
        for (String word : new String[] {"throw", "throws", "try", "catch", "finally", "synchronized", "assert",
            "package", "var", "native", "volatile", "transient", "protected", "hashCode", "System.out", "Object",
            "random", "nanoTime", "currentTimeMillis", "Exact", "MAX_VALUE", "MIN_VALUE"}) {
            due.holds("without " + word, !Pattern.compile("\\b" + Pattern.quote(word) + "\\b").matcher(code).find());
        }
        due.holds("no lambda", !code.contains("->"));
        due.holds("no method reference", !code.contains("::"));
        Matcher imports = Pattern.compile("import\\s+([\\w.]+)\\s*;").matcher(code);
        while (imports.find()) {
            due.holds("import of " + imports.group(1),
                    imports.group(1).matches("java\\.util\\.(Arrays|ArrayList|List|Iterator)"));
        }
        Matcher fields = Pattern.compile("(?m)^\\s*(public|private)?\\s*static\\s+(?!final\\b)[^(]*(=|;)").matcher(code);
        due.holds("static fields are final", !fields.find());
        due.holds("no static block", !Pattern.compile("\\bstatic\\s*\\{").matcher(code).find());
        due.holds("signs up to 127", text.chars().allMatch(sign -> sign < 128));
        due.ending();
    }
}

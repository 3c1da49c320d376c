import java.io.IOException;
import java.nio.file.Files;
import java.nio.file.Path;
import java.util.regex.Matcher;
import java.util.regex.Pattern;

/** Those rules of LANGUAGE.md that can be seen from the source's words. It is run from the project's root. */
public final class RulesTest {
    private static final Due due = new Due();
    private static final String[] BANNED = {"throw", "throws", "try", "catch", "synchronized", "assert", "import", "package",
        "->", "::", "\\w+Exact", "protected", "volatile", "native", "Object", "System\\.(?!arraycopy)", "equals", "hashCode",
        "toString", "instanceof \\w+\\(", "float", "double", "Random", "Thread", "static \\{", "\\bvar\\b"};

    public static void main(String[] args) throws IOException {
        String source = Files.readString(Path.of("src/main/java/UsedUp.java"));
        String code = source.replaceAll("(?s)/\\*.*?\\*/", "").replaceAll("//[^\n]*", "").replaceAll("\"[^\"\n]*\"", "\"\"");
        for (String banned : BANNED) {
            String whole = banned.matches("[A-Za-z]+") ? "\\b" + banned + "\\b" : banned;
            Matcher m = Pattern.compile(whole).matcher(code);
            due.that("rules 2 to 6, 13: no " + banned, !m.find());
        }
        due.that("constants have signs 1 to 127", source.chars().allMatch(c -> c < 128));
        methodsAreShort(code);
        due.finish();
    }

    private static void methodsAreShort(String code) {
        String[] lines = code.split("\n");
        Pattern head = Pattern.compile("^(    |        )(?! ).*\\) \\{$");
        for (int i = 0; i < lines.length; i++) {
            Matcher m = head.matcher(lines[i]);
            if (m.matches()) {
                int end = i;
                while (end < lines.length && !lines[end].equals(m.group(1) + "}")) {
                    end++;
                }
                due.that("rule 11: short: " + lines[i].trim(), end - i <= 60);
            }
        }
    }
}

import java.io.IOException;
import java.nio.file.Files;
import java.nio.file.Path;
import java.util.List;
import java.util.regex.Matcher;
import java.util.regex.Pattern;

/** What of LANGUAGE.md can be seen from the text of the class. */
public final class LanguageTest {
    private static final int LONGEST_METHOD = 60;
    private static final int MOST_PARAMETERS = 7;
    private static final int MOST_CLASSES = 12;
    private static final String[] RULED_OUT = {
        "\\bpackage\\b", "\\bimport\\b", "->", "::", "\\btry\\b", "\\bcatch\\b", "\\bfinally\\b", "\\bsynchronized\\b",
        "\\bassert\\b", "\\bstatic\\s*\\{", "Exact\\(", "\\bprotected\\b", "\\bdouble\\b", "\\bfloat\\b",
        "System\\.(?!arraycopy\\()", "Math\\.(?!max\\(|min\\()", "\\.hashCode\\b", "\\.toString\\b", "\\.equals\\b",
        "[^\\x00-\\x7f]", "\\bnull\\b", "\\bnew (?!int\\[|boolean\\[|[A-Z]\\w*\\()",
        "\\bstatic (?!final\\b|int \\w+\\(|long \\w+\\(|boolean \\w+\\()",
        "\\bthrow new (?!IllegalArgumentException\\(\"|IllegalStateException\\(\")",
    };

    public static void main(String[] args) throws IOException {
        Due due = new Due();
        List<String> lines = Files.readAllLines(Path.of("src/main/java/NoiseKeys.java"));
        String code = withoutComments(String.join("\n", lines));
        for (String pattern : RULED_OUT) {
            due.same("places of " + pattern, 0, places(pattern, code));
        }
        due.same("classes are few", 1, places("\\bclass\\b", code) <= MOST_CLASSES ? 1 : 0);
        parameters(due, code);
        methodLengths(due, code);
        due.end();
    }

    private static String withoutComments(String text) {
        return text.replaceAll("(?s)/\\*.*?\\*/", "").replaceAll("//.*", "");
    }

    private static int places(String pattern, String text) {
        Matcher matcher = Pattern.compile(pattern).matcher(text);
        int found = 0;
        while (matcher.find()) {
            found++;
        }
        return found;
    }

    private static void parameters(Due due, String code) {
        Matcher matcher = Pattern.compile("(\\w+)\\(([^()]*)\\)[^;{}]*\\{").matcher(code);
        while (matcher.find()) {
            boolean few = matcher.group(2).split(",").length <= MOST_PARAMETERS;
            due.same("parameters of " + matcher.group(1) + " are few", 1, few ? 1 : 0);
        }
    }

    /** A method begins at an indent of 4 or 8 with a line that ends in ") {" or tells what it throws. */
    private static void methodLengths(Due due, String code) {
        Pattern head = Pattern.compile("^( {4}| {8})\\w[^=;]*\\)[^=;]*\\{$");
        String[] lines = code.split("\n");
        for (int start = 0; start < lines.length; start++) {
            Matcher matcher = head.matcher(lines[start]);
            if (matcher.matches()) {
                int end = start;
                while (end < lines.length && !lines[end].equals(matcher.group(1) + "}")) {
                    end++;
                }
                boolean isShort = end < lines.length && end - start < LONGEST_METHOD;
                due.same("short: " + lines[start].trim(), 1, isShort ? 1 : 0);
            }
        }
    }
}

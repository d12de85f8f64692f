import java.io.IOException;
import java.lang.reflect.Method;
import java.lang.reflect.Modifier;
import java.nio.file.DirectoryStream;
import java.nio.file.Files;
import java.nio.file.Path;
import java.util.regex.Matcher;
import java.util.regex.Pattern;

/** The README's examples answer as it says behind them, and it leaves out no call and no test. */
public final class ReadmeTest {
    private static final String NEW_OBJECT = "NoiseKeys keys = new NoiseKeys();";
    private static final Pattern CALL = Pattern.compile("keys\\.(\\w+)\\((.*?)\\);\\s*// (-?\\d+)(:.*)?");
    private static final Due due = new Due();

    public static void main(String[] args) throws IOException {
        String readme = Files.readString(Path.of("README.md"));
        Matcher block = Pattern.compile("(?s)```java\n(.*?)```").matcher(readme);
        int blocks = 0;
        while (block.find()) {
            examples(block.group(1).split("\n"));
            blocks++;
        }
        due.same("there are examples", 1, blocks > 0 ? 1 : 0);
        for (Method method : NoiseKeys.class.getDeclaredMethods()) {
            if (Modifier.isPublic(method.getModifiers())) {
                boolean shown = readme.contains("keys." + method.getName() + "(");
                due.same("an example of " + method.getName(), 1, shown ? 1 : 0);
            }
        }
        tests(readme);
        due.end();
    }

    private static void examples(String[] lines) {
        due.same("an example's first line", NEW_OBJECT, lines[0]);
        NoiseKeys keys = new NoiseKeys();
        for (int i = 1; i < lines.length; i++) {
            Matcher call = CALL.matcher(lines[i]);
            if (call.matches()) {
                due.same(lines[i], call.group(3), Calls.answer(keys, call.group(1), arguments(call.group(2))));
            } else {
                due.same(lines[i], "a call with its answer", "something else");
            }
        }
    }

    private static Object[] arguments(String text) {
        if (text.isEmpty()) {
            return new Object[0];
        }
        String[] parts = text.split(", ");
        Object[] row = new Object[parts.length];
        for (int i = 0; i < parts.length; i++) {
            boolean truth = parts[i].equals("true") || parts[i].equals("false");
            row[i] = truth ? (Object) parts[i].equals("true") : (Object) Integer.valueOf(parts[i]);
        }
        return row;
    }

    private static void tests(String readme) throws IOException {
        try (DirectoryStream<Path> files = Files.newDirectoryStream(Path.of("src/test/java"), "*Test.java")) {
            for (Path file : files) {
                String name = file.getFileName().toString().replace(".java", "");
                due.same("the README tells of " + name, 1, readme.contains("| " + name + " |") ? 1 : 0);
            }
        }
    }
}

import java.io.IOException;
import java.nio.file.Files;
import java.nio.file.Path;
import java.util.ArrayList;
import java.util.LinkedHashMap;
import java.util.List;
import java.util.Map;
import java.util.regex.Matcher;
import java.util.regex.Pattern;

/** The text of the document by its headings, and which words of it some test is of. */
final class Document {
    private static final Path PLACE = Path.of("../shared/DOC.md");
    /** Tells mostly what the class is for: only some words of it ask for a test. */
    static final String OPENING = "What it is";
    private static final Pattern HEADING = Pattern.compile("(?m)^## (What it is|The public face|Terms|Promise \\d+).*$");
    private static final Pattern FACE = Pattern.compile("(?s)## The public face\\s+```java\n(.*?)```");

    private final Map<String, String> texts = new LinkedHashMap<>();
    private final Map<String, boolean[]> marks = new LinkedHashMap<>();

    Document() {
        if (!Files.exists(PLACE)) {
            System.out.println(PLACE + " is not there: the words that tests are of are not looked up");
            return;
        }
        String all = read().replaceFirst("(?s)\n## Not promised.*", "");
        Matcher heading = HEADING.matcher(all);
        String name = null;
        int start = 0;
        while (heading.find()) {
            keep(name, all.substring(start, heading.start()));
            name = heading.group(1);
            start = heading.end();
        }
        keep(name, all.substring(start));
    }

    private static String read() {
        try {
            return Files.readString(PLACE);
        } catch (IOException broken) {
            throw new IllegalStateException(broken);
        }
    }

    /** The lines of the public face; none if the document is not there. */
    static String face() {
        Matcher block = FACE.matcher(Files.exists(PLACE) ? read() : "");
        return block.find() ? block.group(1) : "";
    }

    private void keep(String name, String text) {
        if (name != null && !name.equals("The public face")) {
            String words = plain(text);
            texts.put(name, words);
            marks.put(name, new boolean[words.length()]);
        }
    }

    /** Without what is no sentence: fences, numbers of parts, and a call's own line of the face. */
    private static String plain(String text) {
        String words = text.replaceAll("```\\w*", " ").replaceAll("==== [IVX]+\\.", " ").replaceAll("`[^`]*`:", " ");
        return words.replaceAll("\\s+", " ").trim();
    }

    /** Whether these words stand under the heading; from now on a test is of them. */
    boolean says(String heading, String words) {
        if (texts.isEmpty()) {
            return true;
        }
        String text = texts.getOrDefault(heading, "");
        int at = text.indexOf(words);
        boolean found = at >= 0;
        while (at >= 0) {
            for (int i = at; i < at + words.length(); i++) {
                marks.get(heading)[i] = true;
            }
            at = text.indexOf(words, at + 1);
        }
        return found;
    }

    /** What no test is of, a line for each heading. */
    List<String> untested() {
        List<String> found = new ArrayList<>();
        for (String heading : texts.keySet()) {
            String rest = unmarked(heading);
            if (!rest.isEmpty() && !heading.equals(OPENING)) {
                found.add(heading + ": " + rest);
            }
        }
        return found;
    }

    private String unmarked(String heading) {
        String text = texts.get(heading);
        StringBuilder rest = new StringBuilder();
        for (int i = 0; i < text.length(); i++) {
            rest.append(marks.get(heading)[i] ? ' ' : text.charAt(i));
        }
        String words = rest.toString().replaceAll("\\s+", " ").trim();
        return words.matches("[ .;:,()]*") ? "" : words;
    }
}

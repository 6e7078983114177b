import java.io.IOException;
import java.nio.file.Files;
import java.nio.file.Path;
import java.util.ArrayList;
import java.util.LinkedHashMap;
import java.util.List;
import java.util.Map;
import java.util.Set;
import java.util.TreeSet;
import java.util.regex.Matcher;
import java.util.regex.Pattern;

/** The words that stand under each head of the document, and which of them some test has quoted. */
final class Doc {
    private static final Path PLACE = Path.of("..", "shared", "DOC.md");

    private final Map<String, String> texts = new LinkedHashMap<>();
    private final Map<String, boolean[]> quoted = new LinkedHashMap<>();

    private Doc() {
    }

    /** Reads the document from beside the checkout; a document without heads, if it is not there. */
    static Doc read() {
        Doc doc = new Doc();
        if (!Files.exists(PLACE)) {
            return doc;
        }
        try {
            for (String part : Files.readString(PLACE).split("\n## ")) {
                doc.take(part);
            }
        } catch (IOException e) {
            throw new IllegalStateException("the document can't be read", e);
        }
        return doc;
    }

    /** The calls under 'The public face', in their order by letters, without the names of their numbers; empty, if it is not there. */
    static String face() {
        Set<String> calls = new TreeSet<>();
        try {
            String text = Files.exists(PLACE) ? Files.readString(PLACE) : "";
            Matcher call = Pattern.compile("(?m)^    public (\\w+ \\w+\\(.*\\).*);$").matcher(text);
            while (call.find()) {
                calls.add(call.group(1).replaceAll("\\bint \\w+(?=[,)])", "int").replace(", ", ","));
            }
        } catch (IOException e) {
            throw new IllegalStateException("the document can't be read", e);
        }
        return String.join(" ", calls);
    }

    private void take(String part) {
        int end = part.indexOf('\n');
        String head = end < 0 ? part : part.substring(0, end);
        if (end < 0 || !head.equals("Terms") && !head.startsWith("Promise ")) {
            return;
        }
        String text = part.substring(end).replace("```text", " ").replace("```", " ").replaceAll("==== \\d\\.", " ")
            .replaceAll("`[^`]*`:", " ").replaceAll("\\s+", " ").trim();
        String name = head.replaceAll(":.*", "");
        texts.put(name, text);
        quoted.put(name, new boolean[text.length()]);
    }

    boolean isThere() {
        return !texts.isEmpty();
    }

    /** Tells whether the words stand under the head, and marks them as quoted. */
    boolean quote(String head, String words) {
        String text = texts.getOrDefault(head, "");
        int first = text.indexOf(words);
        for (int at = first; at >= 0; at = text.indexOf(words, at + 1)) {
            java.util.Arrays.fill(quoted.get(head), at, at + words.length(), true);
        }
        return first >= 0;
    }

    Iterable<String> heads() {
        return texts.keySet();
    }

    /** The words under a head that no test has quoted. */
    List<String> unquoted(String head) {
        String text = texts.get(head);
        boolean[] marks = quoted.get(head);
        List<String> rest = new ArrayList<>();
        StringBuilder words = new StringBuilder();
        for (int i = 0; i <= text.length(); i++) {
            if (i < text.length() && !marks[i]) {
                words.append(text.charAt(i));
            } else {
                if (words.toString().matches("(?s).*[A-Za-z0-9].*")) {
                    rest.add(words.toString().trim());
                }
                words.setLength(0);
            }
        }
        return rest;
    }
}

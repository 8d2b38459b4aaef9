import java.nio.file.Files;
import java.nio.file.Path;
import java.util.LinkedHashMap;
import java.util.Map;

/**
 * The document, cut into its promises and the parts of its terms. It is read so that no test can hold the class to a
 * sentence that the document does not have, and that no sentence is left without a test.
 */
final class Doc {
    private static final Path FILE = Path.of("../shared/DOC.md");
    private static final String FACE = "The public face";

    private final Map<String, StringBuilder> parts = new LinkedHashMap<>();
    /** By parts: which of its signs some test quotes. */
    private final Map<String, boolean[]> quoted = new LinkedHashMap<>();

    Doc() throws Exception {
        String part = "";
        for (String line : Files.readAllLines(FILE)) {
            if (line.startsWith("## ")) {
                part = nameOf(line.substring(3));
            } else if (line.startsWith("======== ")) {
                part = "Terms " + line.charAt(9);
                add(part, line.substring(10));
            } else if (!line.startsWith("```") && !line.startsWith("Ahead of the calls")) {
                add(part, line);
            }
        }
        for (Map.Entry<String, StringBuilder> e : parts.entrySet()) {
            quoted.put(e.getKey(), new boolean[e.getValue().length()]);
        }
    }

    private static String nameOf(String heading) {
        if (heading.equals("Terms")) {
            return "Terms 0";
        }
        return heading.startsWith("Promise ") ? heading.substring(0, heading.indexOf(':')) : heading;
    }

    private void add(String part, String line) {
        if (!line.isBlank()) {
            StringBuilder text = parts.computeIfAbsent(part, p -> new StringBuilder());
            text.append(text.length() == 0 ? "" : " ").append(line.strip().replaceAll("\\s+", " "));
        }
    }

    /** Whether a part of the document has this sentence; what was quoted is marked. */
    boolean quote(String part, String sentence) {
        StringBuilder text = parts.get(part);
        if (text == null || sentence.isBlank()) {
            return false;
        }
        int at = text.indexOf(sentence);
        boolean isThere = at >= 0;
        while (at >= 0) {
            for (int i = at; i < at + sentence.length(); i++) {
                quoted.get(part)[i] = true;
            }
            at = text.indexOf(sentence, at + 1);
        }
        return isThere;
    }

    /** The signature that a promise begins with is looked at by itself. */
    String signature(int promise) {
        String text = parts.get("Promise " + promise).toString();
        int end = text.indexOf('`', 1);
        quote("Promise " + promise, text.substring(0, end + 1));
        return text.substring(1, end);
    }

    int promises() {
        int n = 0;
        while (parts.containsKey("Promise " + (n + 1))) {
            n++;
        }
        return n;
    }

    String face() {
        return parts.get(FACE).toString();
    }

    /** What no test quotes: of each promise and each part of the terms the words left over. */
    String unquoted() {
        StringBuilder out = new StringBuilder();
        for (String part : parts.keySet()) {
            if (!part.startsWith("Promise ") && !part.startsWith("Terms ")) {
                continue;
            }
            String left = leftOver(parts.get(part), quoted.get(part));
            if (!left.isEmpty()) {
                out.append(part).append(": ").append(left).append('\n');
            }
        }
        return out.toString();
    }

    private static String leftOver(StringBuilder text, boolean[] marks) {
        StringBuilder out = new StringBuilder();
        for (int i = 0; i < marks.length; i++) {
            if (!marks[i] && Character.isLetterOrDigit(text.charAt(i))) {
                out.append(text.charAt(i));
            } else if (out.length() > 0 && out.charAt(out.length() - 1) != ' ') {
                out.append(' ');
            }
        }
        return out.toString().strip();
    }
}

import java.util.ArrayList;
import java.util.LinkedHashMap;
import java.util.List;
import java.util.Map;

/**
 * The sections of the document, and which of their words a test has quoted. So it is seen that a test
 * speaks of a sentence that is there, and that no sentence is without one.
 */
final class Document {
    private final Map<String, String> texts = new LinkedHashMap<>();
    private final Map<String, boolean[]> quoted = new LinkedHashMap<>();

    Document(String whole) {
        String name = "";
        boolean code = false;
        for (String line : whole.split("\n")) {
            if (line.startsWith("```")) {
                code = line.equals("```java");
            } else if (line.startsWith("## ")) {
                name = nameOf(line.substring(3));
            } else if (!code && !line.startsWith("# ") && !line.startsWith("Ahead of the calls")) {
                texts.merge(name, spaced(line), (a, b) -> spaced(a + " " + b));
            }
        }
        for (Map.Entry<String, String> each : texts.entrySet()) {
            quoted.put(each.getKey(), new boolean[each.getValue().length()]);
        }
    }

    /** Of "Promise 2: place" the first part. */
    private static String nameOf(String heading) {
        int colon = heading.indexOf(':');
        return colon < 0 ? heading : heading.substring(0, colon);
    }

    /** Without the signatures, the marks of the parts, and more than one blank. */
    private static String spaced(String line) {
        return line.replaceAll("`[^`]*`:", " ").replaceAll("==== [123] ", " ").replaceAll("\\s+", " ").trim();
    }

    /** How often the words stand in the section; they are quoted then. */
    int quote(String section, String words) {
        String text = texts.getOrDefault(section, "");
        int found = 0;
        for (int at = text.indexOf(words); at >= 0; at = text.indexOf(words, at + 1)) {
            found++;
            for (int i = at; i < at + words.length(); i++) {
                quoted.get(section)[i] = true;
            }
        }
        return found;
    }

    List<String> sections() {
        return new ArrayList<>(texts.keySet());
    }

    /** The runs of a section that were not quoted and have a letter or a digit. */
    List<String> unquoted(String section) {
        List<String> runs = new ArrayList<>();
        StringBuilder run = new StringBuilder();
        String text = texts.getOrDefault(section, "");
        for (int i = 0; i <= text.length(); i++) {
            if (i < text.length() && !quoted.get(section)[i]) {
                run.append(text.charAt(i));
            } else {
                if (run.chars().anyMatch(Character::isLetterOrDigit)) {
                    runs.add(run.toString());
                }
                run.setLength(0);
            }
        }
        return runs;
    }
}

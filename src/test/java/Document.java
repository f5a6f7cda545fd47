import java.io.IOException;
import java.nio.file.Files;
import java.nio.file.Path;
import java.util.ArrayList;
import java.util.Arrays;
import java.util.LinkedHashMap;
import java.util.List;
import java.util.Map;

/**
 * The text of ../shared/DOC.md, cut into its places ("Terms", "Section 1", "Promise 1" and so on),
 * with a mark on every character that a test has quoted.
 */
final class Document {
    private static final Path FILE = Path.of("../shared/DOC.md");

    private final Map<String, StringBuilder> texts = new LinkedHashMap<>();
    private final Map<String, boolean[]> quoted = new LinkedHashMap<>();

    private Document() {
    }

    static Document read() throws IOException {
        Document document = new Document();
        String place = null;
        for (String line : Files.readString(FILE).split("\n")) {
            if (line.startsWith("## ")) {
                place = placeOfHeading(line.substring(3));
            } else if (line.matches("[1-8]\\. [A-Z ,]+")) {
                place = "Section " + line.charAt(0);
            } else if (place != null && isTold(line)) {
                document.add(place, line);
            }
        }
        document.texts.forEach((name, text) -> document.quoted.put(name, new boolean[text.length()]));
        return document;
    }

    private static String placeOfHeading(String heading) {
        if (heading.startsWith("Promise ")) {
            return heading.substring(0, heading.indexOf(':'));
        }
        return heading.equals("Terms") || heading.equals("What it is") ? heading : null;
    }

    /** The headings of the interface and the marks round a list say nothing that could be broken. */
    private static boolean isTold(String line) {
        boolean isHeading = line.startsWith("Ahead of the calls") && !line.contains("; ");
        return !line.isBlank() && !line.startsWith("```") && !isHeading;
    }

    private void add(String place, String line) {
        StringBuilder text = texts.computeIfAbsent(place, name -> new StringBuilder());
        // A promise begins with the head of its method, which FaceTest looks at.
        boolean isHead = place.startsWith("Promise ") && text.length() == 0;
        String told = isHead ? line.substring(line.indexOf("`: ") + 3) : line;
        text.append(plain(told)).append(' ');
    }

    private static String plain(String text) {
        return text.replace("`", "").replaceAll("\\s+", " ").strip();
    }

    /** Marks the quotation wherever it stands at the place; false if it stands nowhere there. */
    boolean quote(String place, String quotation) {
        String sought = plain(quotation);
        String text = texts.containsKey(place) ? texts.get(place).toString() : "";
        int at = text.indexOf(sought);
        boolean found = at >= 0;
        while (at >= 0) {
            Arrays.fill(quoted.get(place), at, at + sought.length(), true);
            at = text.indexOf(sought, at + 1);
        }
        return found;
    }

    /** Every stretch that no test has quoted and that holds more than signs. */
    List<String> unquoted() {
        List<String> stretches = new ArrayList<>();
        texts.forEach((place, text) -> {
            StringBuilder rest = new StringBuilder();
            for (int i = 0; i < text.length(); i++) {
                rest.append(quoted.get(place)[i] ? '|' : text.charAt(i));
            }
            for (String stretch : rest.toString().split("\\|+")) {
                if (stretch.matches(".*[A-Za-z0-9].*")) {
                    stretches.add(place + ": " + stretch.strip());
                }
            }
        });
        return stretches;
    }
}

import java.io.IOException;
import java.nio.file.Files;
import java.nio.file.Path;
import java.util.ArrayList;
import java.util.Arrays;
import java.util.LinkedHashMap;
import java.util.List;
import java.util.Map;

/** ../shared/DOC.md, part by part (a heading's name up to a colon), and which of its words a test has named. */
final class Doc {
    private final Map<String, String> parts = new LinkedHashMap<>();
    private final Map<String, boolean[]> named = new LinkedHashMap<>();

    Doc(Path file) throws IOException {
        String part = "";
        for (String line : Files.readAllLines(file)) {
            if (line.startsWith("## ")) {
                part = line.substring(3).split(":")[0].trim();
            } else if (!line.startsWith("```")) {
                parts.merge(part, line, (before, more) -> before + " " + more);
            }
        }
        parts.replaceAll((name, text) -> withoutSignature(text).replaceAll("\\s+", " ").trim());
        parts.forEach((name, text) -> named.put(name, new boolean[text.length()]));
    }

    /** A promise begins with the call that it is of, in backticks. */
    private static String withoutSignature(String text) {
        return text.replaceFirst("^\\s*`[^`]*`: ", "");
    }

    /** Whether the words stand in the part; they are named from now on, wherever they stand in it. */
    boolean names(String part, String words) {
        String text = parts.getOrDefault(part, "");
        boolean found = false;
        for (int at = text.indexOf(words); at >= 0; at = text.indexOf(words, at + 1)) {
            Arrays.fill(named.get(part), at, at + words.length(), true);
            found = true;
        }
        return found;
    }

    /** What of the Terms and of the promises no test has named. */
    List<String> unnamed() {
        List<String> rest = new ArrayList<>();
        for (String part : parts.keySet()) {
            if (part.equals("Terms") || part.startsWith("Promise ")) {
                addUnnamed(part, rest);
            }
        }
        return rest;
    }

    private void addUnnamed(String part, List<String> rest) {
        String text = parts.get(part);
        int from = 0;
        for (int i = 0; i <= text.length(); i++) {
            if (i == text.length() || named.get(part)[i]) {
                String words = text.substring(from, i).trim();
                if (words.chars().anyMatch(Character::isLetterOrDigit)) {
                    rest.add(part + ": " + words);
                }
                from = i + 1;
            }
        }
    }
}

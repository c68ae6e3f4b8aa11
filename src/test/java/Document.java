import java.io.IOException;
import java.nio.file.Files;
import java.nio.file.Path;
import java.util.ArrayList;
import java.util.LinkedHashMap;
import java.util.List;
import java.util.Map;

/** The words of ../shared/DOC.md from "Terms" to the last promise, and which of them a test has named. */
final class Document {
    static final String TERMS = "Terms";
    private static final Path PLACE = Path.of("../shared/DOC.md");

    private final Map<String, String> words = new LinkedHashMap<>();
    private final Map<String, boolean[]> named = new LinkedHashMap<>();

    Document() throws IOException {
        if (Files.exists(PLACE)) {
            cut(Files.readString(PLACE));
        }
        words.forEach((place, text) -> named.put(place, new boolean[text.length()]));
    }

    boolean isThere() {
        return !words.isEmpty();
    }

    static String promise(int number) {
        return "Promise " + number;
    }

    // What says nothing that a call could show is left out: fences, the heads of the interface, the signatures.
    private void cut(String text) {
        String place = "";
        for (String line : text.split("\n")) {
            String bare = line.trim();
            if (bare.startsWith("## ")) {
                String head = bare.substring(3).split(":")[0];
                place = head.equals(TERMS) || head.startsWith("Promise ") ? head : "";
            } else if (!place.isEmpty() && !bare.isEmpty() && !bare.startsWith("```") && !bare.startsWith("Ahead of the calls")) {
                String said = bare.replaceFirst("^=+ \\d ", "").replaceFirst("^`[^`]*`: ", "");
                words.merge(place, said, (before, more) -> before + " " + more);
            }
        }
    }

    /** Whether the words stand at that place; they have been named then. */
    boolean name(String place, String quoted) {
        String text = words.get(place);
        if (text == null || quoted.isEmpty()) {
            return false;
        }
        boolean found = false;
        for (int at = text.indexOf(quoted); at >= 0; at = text.indexOf(quoted, at + 1)) {
            found = true;
            for (int i = at; i < at + quoted.length(); i++) {
                named.get(place)[i] = true;
            }
        }
        return found;
    }

    List<String> unnamed() {
        List<String> left = new ArrayList<>();
        words.forEach((place, text) -> {
            StringBuilder run = new StringBuilder();
            for (int i = 0; i <= text.length(); i++) {
                if (i < text.length() && !named.get(place)[i]) {
                    run.append(text.charAt(i));
                } else {
                    if (run.chars().anyMatch(Character::isLetterOrDigit)) {
                        left.add(place + ": " + run.toString().trim());
                    }
                    run.setLength(0);
                }
            }
        });
        return left;
    }
}

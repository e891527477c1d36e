import java.io.IOException;
import java.nio.charset.StandardCharsets;
import java.nio.file.Files;
import java.nio.file.Paths;
import java.util.ArrayList;
import java.util.Arrays;
import java.util.LinkedHashMap;
import java.util.List;
import java.util.Map;

/** The document's sentences, under their headings, and which of them have been named. */
final class Document {
    /** FaceTest reads the face; what is not promised is free. */
    private static final List<String> WITHOUT_CALLS = Arrays.asList("The public face", "Not promised");
    /** FaceTest reads these lines, too. */
    private static final String NAMES_OF_PARTS = "Ahead of the calls";

    private final Map<String, String> texts = new LinkedHashMap<>();
    private final Map<String, boolean[]> named = new LinkedHashMap<>();

    Document(String file) throws IOException {
        String heading = "";
        for (String line : Files.readAllLines(Paths.get(file), StandardCharsets.UTF_8)) {
            if (line.startsWith("#")) {
                heading = line.replaceFirst("^#+ ", "").replaceFirst("^(Promise \\d+):.*", "$1");
                texts.put(heading, "");
            } else if (!line.startsWith(NAMES_OF_PARTS)) {
                String text = line.trim().replaceFirst("^- ", "").replaceFirst("^`[a-z]* ?[A-Za-z]+\\(.*?`: ", "");
                texts.merge(heading, text, (before, more) -> (before + " " + more).trim());
            }
        }
        for (Map.Entry<String, String> entry : texts.entrySet()) {
            named.put(entry.getKey(), new boolean[entry.getValue().length()]);
        }
    }

    /** Marks a sentence as named; false if it does not stand there. */
    boolean name(String heading, String sentence) {
        String text = texts.getOrDefault(heading, "");
        int at = text.indexOf(sentence);
        boolean isThere = at >= 0 && !sentence.isEmpty();
        while (at >= 0 && isThere) {
            Arrays.fill(named.get(heading), at, at + sentence.length(), true);
            at = text.indexOf(sentence, at + 1);
        }
        return isThere;
    }

    /** What has not been named. */
    List<String> rest() {
        List<String> rest = new ArrayList<>();
        for (String heading : texts.keySet()) {
            StringBuilder left = new StringBuilder();
            String text = WITHOUT_CALLS.contains(heading) ? "" : texts.get(heading);
            for (int i = 0; i < text.length(); i++) {
                left.append(named.get(heading)[i] ? '|' : text.charAt(i));
            }
            for (String part : left.toString().split("\\|+")) {
                if (part.matches(".*[A-Za-z0-9].*")) {
                    rest.add(heading + ": " + part.trim());
                }
            }
        }
        return rest;
    }
}

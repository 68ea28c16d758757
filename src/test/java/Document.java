import java.nio.file.Files;
import java.nio.file.Path;
import java.util.ArrayList;
import java.util.Arrays;
import java.util.LinkedHashMap;
import java.util.List;
import java.util.Map;

/** The document's words, chapter by chapter, and which of them a test has named; started in the project's folder. */
final class Document {
    private final Map<String, StringBuilder> chapters = new LinkedHashMap<>();
    private final Map<String, boolean[]> named = new LinkedHashMap<>();

    Document() throws Exception {
        String chapter = "";
        boolean inFace = false;
        for (String line : Files.readAllLines(Path.of("../shared/DOC.md"))) {
            if (line.startsWith("```")) {
                inFace = line.equals("```java");
            } else if (line.startsWith("#")) {
                chapter = line.replaceFirst("^#+ ", "");
                chapters.put(chapter, new StringBuilder());
            } else if (!inFace) {
                chapters.get(chapter).append(even(line)).append(' ');
            }
        }
        for (String heading : chapters.keySet()) {
            named.put(heading, new boolean[chapters.get(heading).length()]);
        }
    }

    private static String even(String words) {
        return words.replace("`", "").trim().replaceAll("\\s+", " ");
    }

    /** Names words of a chapter; false, if the chapter does not hold them. */
    boolean name(String chapter, String words) {
        if (!chapters.containsKey(chapter)) {
            return false;
        }
        int start = chapters.get(chapter).indexOf(even(words));
        if (start < 0) {
            return false;
        }
        Arrays.fill(named.get(chapter), start, start + even(words).length(), true);
        return true;
    }

    /** The pieces that were not named, each with its chapter. */
    List<String> unnamed() {
        List<String> pieces = new ArrayList<>();
        for (String chapter : chapters.keySet()) {
            StringBuilder text = chapters.get(chapter);
            StringBuilder piece = new StringBuilder();
            for (int i = 0; i <= text.length(); i++) {
                if (i < text.length() && !named.get(chapter)[i]) {
                    piece.append(text.charAt(i));
                } else {
                    if (piece.toString().matches(".*[A-Za-z0-9].*")) {
                        pieces.add(chapter + ": " + piece.toString().trim());
                    }
                    piece.setLength(0);
                }
            }
        }
        return pieces;
    }
}

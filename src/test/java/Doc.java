import java.io.IOException;
import java.nio.file.Files;
import java.nio.file.Path;
import java.util.ArrayList;
import java.util.List;

/** The document's words: part 0 its terms, parts 1 to 45 its promises; and of which of them a test has spoken. */
final class Doc {
    static final int PROMISES = 45;
    private static final String LIFE = "An object is used for at most 512 calls after it has been made";

    private final String[] parts = new String[PROMISES + 1];
    private final boolean[][] spokenOf = new boolean[PROMISES + 1][];

    Doc(Path file) throws IOException {
        String text = Files.readString(file).replaceAll("```(text|java)?", " ").replaceAll("\\s+", " ");
        parts[0] = LIFE + ". " + between(text, "## Terms", "## Promise 1:").replaceAll("==== [IVX]+\\.", " ");
        for (int n = 1; n <= PROMISES; n++) {
            String promise = between(text, "## Promise " + n + ":", n < PROMISES ? "## Promise " + (n + 1) + ":" : "## Not");
            parts[n] = promise.substring(promise.indexOf("`: ") + 3);
        }
        for (int n = 0; n <= PROMISES; n++) {
            spokenOf[n] = new boolean[parts[n].length()];
        }
        if (!text.contains(LIFE)) {
            throw new IOException("the document no longer says: " + LIFE);
        }
    }

    private static String between(String text, String first, String next) {
        int start = text.indexOf(first) + first.length();
        return text.substring(start, text.indexOf(next, start));
    }

    /** Whether the part has these words; they are spoken of then. */
    boolean speakOf(int part, String words) {
        boolean found = false;
        for (int at = parts[part].indexOf(words); at >= 0; at = parts[part].indexOf(words, at + 1)) {
            java.util.Arrays.fill(spokenOf[part], at, at + words.length(), true);
            found = true;
        }
        return found;
    }

    /** The words of which no test has spoken. */
    List<String> left() {
        List<String> all = new ArrayList<>();
        for (int part = 0; part <= PROMISES; part++) {
            StringBuilder words = new StringBuilder();
            for (int i = 0; i <= parts[part].length(); i++) {
                if (i < parts[part].length() && !spokenOf[part][i]) {
                    words.append(parts[part].charAt(i));
                    continue;
                }
                if (words.toString().matches(".*[A-Za-z0-9].*")) {
                    all.add((part == 0 ? "terms" : "promise " + part) + ": " + words.toString().trim());
                }
                words.setLength(0);
            }
        }
        return all;
    }
}

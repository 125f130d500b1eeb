import java.io.IOException;
import java.nio.file.Files;
import java.nio.file.Path;
import java.util.ArrayList;
import java.util.List;

/** The document, cut into its regions: "Terms", and "Promise 1" and its like. */
final class Document {
    private static final int PROMISES = 25;

    private final String text;
    private final boolean[] isQuoted;

    Document() throws IOException {
        String root = System.getenv().getOrDefault("PROJECT_ROOT", ".");
        text = Files.readString(Path.of(root, "..", "shared", "DOC.md"));
        isQuoted = new boolean[text.length()];
    }

    /** Marks a sentence as quoted; false if it does not stand in the region exactly once. */
    boolean quote(String region, String sentence) {
        int begin = beginOf(region);
        int end = endOf(begin);
        int at = text.indexOf(sentence, begin);
        boolean isThere = begin >= 0 && at >= 0 && at + sentence.length() <= end;
        int again = isThere ? text.indexOf(sentence, at + 1) : -1;
        if (!isThere || again >= 0 && again < end) {
            return false;
        }
        for (int i = at; i < at + sentence.length(); i++) {
            isQuoted[i] = true;
        }
        return true;
    }

    /** What no sentence quotes: headings, signatures and lone signs aside. */
    List<String> unquoted() {
        List<String> pieces = new ArrayList<>();
        addUnquoted("Terms", pieces);
        for (int promise = 1; promise <= PROMISES; promise++) {
            addUnquoted("Promise " + promise, pieces);
        }
        return pieces;
    }

    private void addUnquoted(String region, List<String> pieces) {
        int begin = beginOf(region);
        int end = endOf(begin);
        for (int line = begin; line < end; line = lineEnd(line) + 1) {
            String words = text.substring(line, lineEnd(line));
            boolean isHeading = words.startsWith("#") || words.equals("Stock, laying")
                    || words.startsWith("Ahead of the calls");
            if (!isHeading) {
                int signature = words.startsWith("`") ? words.indexOf("`: ") + 3 : 0;
                addPieces(region, line + signature, lineEnd(line), pieces);
            }
        }
    }

    private void addPieces(String region, int begin, int end, List<String> pieces) {
        StringBuilder piece = new StringBuilder();
        for (int i = begin; i <= end; i++) {
            if (i < end && !isQuoted[i]) {
                piece.append(text.charAt(i));
            } else {
                if (piece.chars().anyMatch(Character::isLetterOrDigit)) {
                    pieces.add(region + ": \"" + piece.toString().strip() + "\"");
                }
                piece.setLength(0);
            }
        }
    }

    private int beginOf(String region) {
        return text.indexOf("\n## " + region + (region.equals("Terms") ? "\n" : ":")) + 1;
    }

    private int endOf(int begin) {
        int end = text.indexOf("\n## ", begin);
        return end < 0 ? text.length() : end;
    }

    private int lineEnd(int line) {
        int end = text.indexOf('\n', line);
        return end < 0 ? text.length() : end;
    }
}

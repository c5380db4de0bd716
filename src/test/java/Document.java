import java.io.IOException;
import java.nio.file.Files;
import java.nio.file.Path;
import java.util.ArrayList;
import java.util.List;

/** ../shared/DOC.md, cut into its Terms and its promises; which of its words a test has quoted. */
final class Document {
    static final int PROMISES = 51;
    private static final int TERMS = 0, REST = PROMISES + 1;

    /** Terms, the promises by their numbers, and all, for words that stand nowhere else. */
    private final String[] parts = new String[PROMISES + 2];
    private final boolean[][] isQuoted = new boolean[PROMISES + 2][];

    Document() throws IOException {
        String all = Files.readString(Path.of("../shared/DOC.md")).replaceAll("(?m)^```.*$", "");
        parts[TERMS] = between(all, "## Terms", "Ahead of the calls `tower`");
        for (int promise = 1; promise <= PROMISES; promise++) {
            String end = promise == PROMISES ? "## Not promised" : "## Promise " + (promise + 1) + ":";
            String section = between(all, "## Promise " + promise + ":", end);
            parts[promise] = section.substring(section.indexOf("`: ") + 3);
        }
        parts[REST] = plain(all);
        for (int part = 0; part < parts.length; part++) {
            isQuoted[part] = new boolean[parts[part].length()];
        }
    }

    private static String plain(String text) {
        return text.replaceAll("\\s+", " ").trim();
    }

    private static String between(String all, String head, String end) {
        int from = all.indexOf(head) + head.length();
        return plain(all.substring(from, all.indexOf(end, from)));
    }

    /** Whether pieces, parted by " .. ", stand in a promise, in the Terms, or else anywhere; they are quoted then. */
    boolean tells(int promise, String sentence) {
        boolean all = true;
        for (String piece : sentence.split(" \\.\\. ")) {
            all = all && (quotes(promise, piece) || quotes(TERMS, piece) || quotes(REST, piece));
        }
        return all;
    }

    private boolean quotes(int part, String piece) {
        int at = parts[part].indexOf(piece);
        if (at < 0) {
            return false;
        }
        java.util.Arrays.fill(isQuoted[part], at, at + piece.length(), true);
        return true;
    }

    /** The words of the Terms (0) or of a promise that no test has quoted. */
    List<String> unquoted(int part) {
        List<String> pieces = new ArrayList<>();
        StringBuilder piece = new StringBuilder();
        for (int i = 0; i <= parts[part].length(); i++) {
            if (i < parts[part].length() && !isQuoted[part][i]) {
                piece.append(parts[part].charAt(i));
            } else {
                if (piece.toString().matches(".*[A-Za-z0-9].*")) {
                    pieces.add(piece.toString().trim());
                }
                piece.setLength(0);
            }
        }
        return pieces;
    }
}

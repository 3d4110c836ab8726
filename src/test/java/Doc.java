import java.io.IOException;
import java.io.UncheckedIOException;
import java.nio.file.Files;
import java.nio.file.Path;
import java.util.LinkedHashMap;
import java.util.Map;

/**
 * The document, cut into the pieces whose sentences the tests quote: "Terms" (the refusals), "Terms 1" to
 * "Terms 3", "THE ROW", "KIND 0" to "KIND 7", "HINTS", "CLASHES" and "Promise 1" to "Promise 29".
 */
final class Doc {
    private static final Path PATH = Path.of("../shared/DOC.md");
    private static final String BLOCK = "```text\n", BLOCK_END = "```";
    private static final Map<String, String> PIECES = read();

    private Doc() {
    }

    /** The words of a piece, one blank between each two. */
    static String piece(String name) {
        String piece = PIECES.get(name);
        if (piece == null) throw new IllegalStateException("the document has no piece " + name);
        return piece;
    }

    private static Map<String, String> read() {
        try {
            return cut(Files.readString(PATH));
        } catch (IOException closed) {
            throw new UncheckedIOException(closed);
        }
    }

    private static Map<String, String> cut(String all) {
        Map<String, String> pieces = new LinkedHashMap<>();
        put(pieces, "Terms", between(all, "## Terms\n", "======== 1 "));
        String one = between(all, "======== 1 ", "======== 2 ");
        put(pieces, "Terms 1", one.substring(0, one.indexOf(BLOCK)));
        put(pieces, "THE ROW", between(one, BLOCK, BLOCK_END));
        String two = between(all, "======== 2 ", "======== 3 ");
        put(pieces, "Terms 2", two.substring(0, two.indexOf(BLOCK)));
        for (String line : between(two, BLOCK, BLOCK_END).split("\n")) put(pieces, kindOrName(line.trim()), line);
        put(pieces, "Terms 3", between(all, "======== 3 ", "Ahead of"));
        for (int n = 1; n <= 29; n++) {
            String promise = between(all, "## Promise " + n + ": ", "\n## ");
            put(pieces, "Promise " + n, promise.substring(promise.indexOf("`: ") + 3));
        }
        return pieces;
    }

    private static String kindOrName(String line) {
        boolean kind = Character.isDigit(line.charAt(0));
        return kind ? "KIND " + line.charAt(0) : line.substring(0, line.indexOf(':'));
    }

    private static String between(String text, String start, String end) {
        int from = text.indexOf(start);
        int to = from < 0 ? -1 : text.indexOf(end, from + start.length());
        if (to < 0) throw new IllegalStateException("the document has nothing between " + start.trim() + " and " + end.trim());
        return text.substring(from + start.length(), to);
    }

    private static void put(Map<String, String> pieces, String name, String text) {
        pieces.put(name, text.trim().replaceAll("\\s+", " "));
    }
}

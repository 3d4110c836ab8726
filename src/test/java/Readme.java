import java.io.IOException;
import java.io.UncheckedIOException;
import java.nio.file.Files;
import java.nio.file.Path;
import java.util.ArrayList;
import java.util.List;

/** README.md, cut into what its tests take: the blocks and the rows of the tables of a part. */
final class Readme {
    private static final String ALL = read();

    private Readme() {
    }

    /** The text behind a heading, up to the next one of the same or of a higher rank. */
    static String part(String heading) {
        int from = ALL.indexOf("\n" + heading + "\n");
        if (from < 0) throw new IllegalStateException("README.md has no part " + heading);
        int start = from + heading.length() + 2, to = start;
        boolean inBlock = false;
        for (String line : ALL.substring(start).split("(?<=\n)")) {
            if (line.startsWith("```")) inBlock = !inBlock;
            if (!inBlock && line.startsWith("#") && line.indexOf(' ') <= heading.indexOf(' ')) break;
            to += line.length();
        }
        return ALL.substring(start, to);
    }

    /** The first block of that language in a part. */
    static String block(String part, String language) {
        String fence = "```" + language + "\n";
        int from = part.indexOf(fence), to = from < 0 ? -1 : part.indexOf("```", from + fence.length());
        if (to < 0) throw new IllegalStateException("README.md has no block of " + language + " there");
        return part.substring(from + fence.length(), to);
    }

    /** The rows of the table whose first column is so headed, each as its columns. */
    static List<String[]> rows(String part, String firstColumn) {
        List<String[]> rows = new ArrayList<>();
        boolean inTable = false;
        for (String line : part.split("\n")) {
            if (!line.startsWith("|")) inTable = false;
            else if (line.startsWith("| " + firstColumn + " |")) inTable = true;
            else if (inTable && !line.startsWith("|--")) rows.add(columns(line));
        }
        return rows;
    }

    private static String[] columns(String line) {
        String[] all = line.substring(1).split("\\|");
        for (int i = 0; i < all.length; i++) all[i] = all[i].trim();
        return all;
    }

    private static String read() {
        try {
            return Files.readString(Path.of("README.md"));
        } catch (IOException closed) {
            throw new UncheckedIOException(closed);
        }
    }
}

/** The tests of one piece of the document: each quotes the words that it tests, and no word may stay untested. */
final class Sentences {
    interface Run {
        void on(Bench x);
    }

    private static final boolean TELL_NAMES = Boolean.getBoolean("names");

    private final String piece;
    private final String text;
    private final boolean[] quoted;

    Sentences(String piece) {
        this.piece = piece;
        text = Doc.piece(piece);
        quoted = new boolean[text.length()];
    }

    /** One test on a new object: which words of the document it tests, at which edge, and its calls. */
    Sentences holds(String words, String edge, Run run) {
        String name = piece + " '" + words + "', " + edge;
        if (TELL_NAMES) System.out.println(name);
        quote(words);
        run.on(new Bench(name));
        return this;
    }

    private void quote(String words) {
        int found = 0;
        for (int at = text.indexOf(words); at >= 0; at = text.indexOf(words, at + 1)) {
            for (int i = at; i < at + words.length(); i++) quoted[i] = true;
            found++;
        }
        Check.that(piece + " has the words '" + words + "'", found > 0);
    }

    /** The end of the tests of this piece. */
    void everyWordIsQuoted() {
        StringBuilder left = new StringBuilder();
        for (int i = 0; i < quoted.length; i++) {
            boolean open = !quoted[i] && Character.isLetterOrDigit(text.charAt(i));
            if (open || (!quoted[i] && left.length() > 0)) left.append(text.charAt(i));
        }
        Check.that(piece + ": each word has a test, but not these: " + left, left.length() == 0);
    }
}

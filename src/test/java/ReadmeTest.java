import java.io.IOException;
import java.nio.file.Files;
import java.nio.file.Path;
import java.util.List;
import java.util.Set;
import java.util.TreeSet;
import java.util.regex.Matcher;
import java.util.regex.Pattern;

/** What README.md says of the use of the class holds as it is written there. */
public final class ReadmeTest {
    private static final String MACHINE = "### 1 The machine", GUESSERS = "### 2 Guessers", COULD_BE = "### 3 What could be";
    private static final int[] SOME = {Integer.MIN_VALUE, -33, -1, 0, 1, 2, 31, 32, 63, 46341, Integer.MAX_VALUE};
    private static final Pattern RANGE = Pattern.compile("(\\d+) to (\\d+): .*");
    private static final Pattern REFUSAL = Pattern.compile("UNKNOWN|OUTSIDE|STATE|FULL|NONE|\\bNO\\b");

    public static void main(String[] args) throws Exception {
        example();
        calls();
        limits();
        ops();
        kinds();
        kindsWithoutClashes();
        sentences();
        Check.end("ReadmeTest");
    }

    private static void example() throws IOException, InterruptedException {
        String use = Readme.part("## Use");
        Path folder = Files.createTempDirectory("readme");
        Files.copy(Path.of("src/main/java/WayGuesses.java"), folder.resolve("WayGuesses.java"));
        Files.writeString(folder.resolve("Example.java"), Readme.block(use, "java"));
        Shell shell = Shell.start(folder, "sh", "-e", "-c", Readme.block(use, "sh"));
        Check.due("Use: exit code of the commands", shell.exitCode(), 0);
        Check.that("Use: the example printed\n" + shell.printed(), shell.printed().equals(Readme.block(use, "text")));
        shell.clear();
        Shell.remove(folder);
    }

    /** The rows of calls are the document's face, in its order, with the refusals that the promises name. */
    private static void calls() throws IOException {
        List<String[]> rows = Readme.rows(Readme.part(MACHINE), "call");
        rows.addAll(Readme.rows(Readme.part(GUESSERS), "call"));
        rows.addAll(Readme.rows(Readme.part(COULD_BE), "call"));
        int promise = 2;
        for (String line : Files.readAllLines(Path.of("../shared/DOC.md"))) {
            if (!line.startsWith("    public int ")) continue;
            String call = line.substring("    public int ".length(), line.length() - 1).replaceAll("int |boolean ", "");
            Check.that("Use: a row for " + call, promise - 2 < rows.size() && rows.get(promise - 2)[0].equals("`" + call + "`"));
            if (promise - 2 < rows.size()) refusals(rows.get(promise - 2), promise);
            promise++;
        }
        Check.due("Use: rows of calls", rows.size(), promise - 2);
    }

    private static void refusals(String[] row, int promise) {
        Set<String> due = refusalsIn(Doc.piece("Promise " + promise)), told = refusalsIn(String.join(" ", row));
        Check.that("Use: " + row[0] + " tells " + told + ", promise " + promise + " has " + due, told.equals(due));
    }

    private static Set<String> refusalsIn(String text) {
        Set<String> found = new TreeSet<>();
        for (Matcher m = REFUSAL.matcher(text); m.find();) found.add(m.group());
        return found;
    }

    private static void limits() {
        Bench x = new Bench("Use, 1: the machine");
        x.see("told(0) = 0").each(0, 63, "op(#, 0, 0, 0, 0) = 0").each(0, 7, "register(#, #) = 1").each(0, 31, "data(#, #) = 1");
        x.refused("UNKNOWN", "op(-1, 0, 0, 0, 0); op(64, 0, 0, 0, 0)").refused("OUTSIDE", "register(8, 0); data(32, 0)");
        Bench y = new Bench("Use, 1: 3000 kept");
        y.see("op(0, 11, 1, 0, 0); register(1, 1); guesser(1, 0, 0, 0); run(2000) = 2000; run(2000) = 2000");
        y.see("told(2) = 4000; told(3) = 3000; asked(0) = 4000; misses(0, -1) = 1");
        Bench z = new Bench("Use, 2: eight guessers");
        z.each(0, 7, "guesser(6, 1, 0, 0) = #").refused("FULL", "guesser(6, 1, 0, 0)");
        Bench p = new Bench("Use, 2: 40 pairs kept");
        p.see("guesser(1, 0, 0, 0)").each(0, 41, "branch(#, 1)");
        p.see("clashes(0) = 41; pair(0, 0) = 1; pair(0, 39) = 2536; pair(0, 40) = NONE");
    }

    private static void ops() {
        List<String[]> rows = Readme.rows(Readme.part(MACHINE), "kind");
        Check.due("Use, 1: rows of ops", rows.size(), 13);
        for (int kind = 0; kind < rows.size(); kind++) {
            Check.that("Use, 1: row " + kind + " is of that kind", rows.get(kind)[0].equals(String.valueOf(kind)));
            for (int r : SOME) {
                for (int s : SOME) opOf(kind, rows.get(kind)[1].replace("`", ""), r, s);
            }
        }
    }

    private static void opOf(int kind, String text, int r, int s) {
        String name = "Use, 1: kind " + kind + " '" + text + "' with r " + r + ", s " + s;
        int spot = s & 31;
        Bench x = new Bench(name).see("stand(63)", "register(3, " + r + ")", "register(5, " + s + ")", "data(" + spot + ", 77)");
        x.see("op(63, " + kind + ", 3, 5, 20)", "run(1) = " + (kind == 0 ? 0 : 1));
        x.see("value(3) = " + registerAfter(text, r, s), "value(5) = " + s, "stored(" + spot + ") = " + (kind == 8 ? r : 77));
        boolean goes = goes(text, r, s), branch = kind >= 9 && kind <= 11;
        x.see("told(0) = " + (kind == 0 ? 63 : goes ? 20 : 0), "told(2) = " + (branch ? 1 : 0));
        if (branch) x.see("at(0, 0) = 63", "at(0, 1) = " + (goes ? 1 : 0));
    }

    /** What the words of the README mean in Java. */
    private static int registerAfter(String text, int r, int s) {
        switch (text) {
            case "r = v": return 20;
            case "r = r + s": return r + s;
            case "r = r - s": return r - s;
            case "r = r * s": return r * s;
            case "r = r & s": return r & s;
            case "r = r >>> 1": return r >>> 1;
            case "r = data[s & 31]": return 77;
            default: return r;
        }
    }

    private static boolean goes(String text, int r, int s) {
        switch (text) {
            case "if (r < s) to v": return r < s;
            case "if (r == s) to v": return r == s;
            case "if (r != 0) to v": return r != 0;
            default: return text.equals("to v");
        }
    }

    private static void kinds() {
        List<String[]> rows = Readme.rows(Readme.part(GUESSERS), "kind");
        Check.due("Use, 2: rows of kinds", rows.size(), 8);
        for (int kind = 0; kind < rows.size(); kind++) {
            String[] row = rows.get(kind);
            Check.that("Use, 2: row " + kind + " is of that kind", row[0].startsWith(kind + " "));
            for (int which = 1; which <= 3; which++) numberOf(kind, row, which);
        }
    }

    /** The edges of one of a, b, c, while the others have numbers that fit. */
    private static void numberOf(int kind, String[] row, int which) {
        String told = row.length > which ? row[which] : "";
        Matcher range = RANGE.matcher(told);
        Bench x = new Bench("Use, 2: kind " + row[0] + ", " + "abc".charAt(which - 1) + " '" + told + "'");
        x.see("guesser(0, 0, 0, 0) = 0; guesser(0, 1, 0, 0) = 1");
        if (range.matches()) {
            int least = Integer.parseInt(range.group(1)), most = Integer.parseInt(range.group(2));
            x.see(guesser(kind, which, least) + " = 2", guesser(kind, which, most) + " = 3");
            x.refused("OUTSIDE", guesser(kind, which, least - 1), guesser(kind, which, most + 1));
        } else if (told.startsWith("guesser: ")) {
            x.see(guesser(kind, which, 0) + " = 2", guesser(kind, which, 2) + " = 3");
            x.refused("UNKNOWN", guesser(kind, which, -1), guesser(kind, which, 4));
        } else {
            Check.that("Use, 2: kind " + row[0] + " has nothing there", told.isEmpty());
            x.see(guesser(kind, which, Integer.MIN_VALUE) + " = 2", guesser(kind, which, Integer.MAX_VALUE) + " = 3");
        }
    }

    private static String guesser(int kind, int which, int number) {
        int[] numbers = {kind, 1, 1, 1};
        numbers[which] = number;
        return "guesser(" + numbers[0] + ", " + numbers[1] + ", " + numbers[2] + ", " + numbers[3] + ")";
    }

    private static void kindsWithoutClashes() {
        Bench x = new Bench("Use, 2: `NO`: kinds 0, 4, 6").busy();
        x.refused("NO", "clashes(0); clashes(4); clashes(6); pair(0, 0); pair(4, 0); pair(6, 0)");
        x.see("clashes(1); clashes(2); clashes(3); clashes(5); clashes(7)");
        x.refused("-1001", "inside(0, 0, 0)").refused("-1000", "inside(8, 0, 0); inside(1, 1, 0); inside(1, 0, 4)");
    }

    private static void sentences() {
        new Bench("Where the document leaves room: keep, back").busy()
            .refused("UNKNOWN", "keep(1, -1); keep(1, 2); back(1, -1); back(1, 2); back(2, 0)");
        new Bench("Where the document leaves room: inside").busy()
            .refused("-1001", "inside(0, 0, 0); inside(0, -1, 0); inside(0, 64, MAX); inside(0, MIN, -1)");
        new Bench("Where the document leaves room: pair").busy().see("pair(1, 0) = 203; pair(1, -1) = NONE; pair(1, MIN) = NONE");
        new Bench("Where the document leaves room: a branch to the next place")
            .see("op(0, 11, 1, 0, 1); run(1) = 1; told(0) = 1; at(0, 1) = 0; stand(0); register(1, 1); run(1) = 1; told(0) = 1; at(1, 1) = 1");
        new Bench("Where the document leaves room: a chooser's counter").see("guesser(0, 0, 0, 0); guesser(7, 0, 0, 0)")
            .ways(1, "1").ways(2, "1").see("clashes(1) = 1; inside(1, 0, 0) = 1");
        new Bench("Use, 2: fresh forgets all but its hints and what is kept").busy().see("asked(1) = 9; fresh(1) = 9; asked(1) = 0")
            .see("hint(1, 3, 1) = 1; back(1, 0) = 7; asked(1) = 7");
        new Bench("Use, 2: kind 0, 2: v not above the place").see("guesser(0, 2, 0, 0); op(9, 0, 0, 0, 9); guess(0, 9) = 1")
            .see("op(9, 0, 0, 0, 10); guess(0, 9) = 0; op(9, 1, 0, 0, MIN); guess(0, 9) = 1");
        new Bench("Where the document leaves room: fresh").see("guesser(1, 0, 0, 0)").ways(1, "1").see("fresh(0) = 1")
            .ways(2, "1").see("clashes(0) = 0").ways(3, "1").see("clashes(0) = 1");
    }
}

import java.io.IOException;
import java.lang.reflect.Constructor;
import java.lang.reflect.Field;
import java.lang.reflect.Method;
import java.lang.reflect.Modifier;
import java.nio.file.Files;
import java.nio.file.Path;
import java.util.ArrayList;
import java.util.List;
import java.util.Set;
import java.util.TreeSet;
import java.util.regex.Matcher;
import java.util.regex.Pattern;

/** The public face, and the rules of LANGUAGE.md that can be read off the class and its text. */
public final class FormTest {
    private static final String[] FACE = {"op iiiii", "register ii", "value i", "data ii", "stored i", "stand i", "run i",
        "branch ii", "at ii", "guesser iiii", "guess ii", "hint iii", "profile i", "misses ii", "asked i", "clashes i", "pair ii",
        "inside iii", "fresh i", "again i", "keep ii", "back ii", "best ib", "seen ib", "often ii", "ticks ii", "told i", "empty "};
    private static final String[] FORBIDDEN = {"catch", "throw", "try", "finally", "synchronized", "assert", "->", "::", "Exact(",
        "float", "double", "Random", "System.out", "nanoTime", "currentTime", "toString", "hashCode", "equals(", "protected"};
    private static final Pattern LIBRARY = Pattern.compile("\\b(Arrays|System|Math|Integer|Long|String|List)\\.\\w+");
    private static final Set<String> LIBRARY_USED = Set.of("Arrays.fill", "System.arraycopy", "Math.min", "Math.max", "Math.abs");
    private static final int MOST_ELEMENTS = 100_000;

    public static void main(String[] args) throws Exception {
        constants();
        face();
        members();
        nested();
        text();
        interfaceOfTheDocument();
        room();
        Check.end("FormTest");
    }

    private static void constants() {
        Check.due("NONE", WayGuesses.NONE, -6);
        Check.due("UNKNOWN", WayGuesses.UNKNOWN, -1);
        Check.due("OUTSIDE", WayGuesses.OUTSIDE, -2);
        Check.due("STATE", WayGuesses.STATE, -3);
        Check.due("FULL", WayGuesses.FULL, -4);
        Check.due("NO", WayGuesses.NO, -5);
        Check.due("public fields", WayGuesses.class.getFields().length, 6);
    }

    private static void face() {
        Check.due("the class is public and final", WayGuesses.class.getModifiers(), Modifier.PUBLIC | Modifier.FINAL);
        Set<String> found = new TreeSet<>();
        for (Method m : WayGuesses.class.getDeclaredMethods()) {
            if (!Modifier.isPublic(m.getModifiers())) continue;
            StringBuilder shape = new StringBuilder(m.getName()).append(' ');
            for (Class<?> type : m.getParameterTypes()) shape.append(type == int.class ? 'i' : type == boolean.class ? 'b' : '?');
            Check.that(m.getName() + " answers an int and is not static", m.getReturnType() == int.class && !Modifier.isStatic(m.getModifiers()));
            found.add(shape.toString());
        }
        Check.that("the public methods are " + found, found.equals(new TreeSet<>(List.of(FACE))));
        Constructor<?>[] makers = WayGuesses.class.getDeclaredConstructors();
        Check.that("one public constructor without parameters",
            makers.length == 1 && Modifier.isPublic(makers[0].getModifiers()) && makers[0].getParameterCount() == 0);
    }

    private static void members() {
        Set<String> names = new TreeSet<>();
        for (String shape : FACE) names.add(shape.substring(0, shape.indexOf(' ')));
        for (Method m : WayGuesses.class.getDeclaredMethods()) {
            if (Modifier.isPublic(m.getModifiers())) continue;
            Check.that(m.getName() + " is private", Modifier.isPrivate(m.getModifiers()));
            Check.that(m.getName() + " bears no name of the face", !names.contains(m.getName()));
        }
        for (Field f : WayGuesses.class.getDeclaredFields()) {
            Check.that(f.getName() + " is private", Modifier.isPublic(f.getModifiers()) || Modifier.isPrivate(f.getModifiers()));
        }
        for (Class<?> c : classes()) {
            for (Method m : c.getDeclaredMethods()) Check.that(m + " has at most seven parameters", m.getParameterCount() <= 7);
        }
    }

    private static List<Class<?>> classes() {
        List<Class<?>> all = new ArrayList<>(List.of(WayGuesses.class.getDeclaredClasses()));
        all.add(WayGuesses.class);
        return all;
    }

    private static void nested() {
        Check.that("at most twelve classes", classes().size() <= 12);
        for (Class<?> c : classes()) {
            int fields = 0;
            for (Field f : c.getDeclaredFields()) {
                boolean fixed = Modifier.isStatic(f.getModifiers());
                if (!fixed) fields++;
                Check.that(f + " is final if it is static", !fixed || Modifier.isFinal(f.getModifiers()));
            }
            Check.that(c + " has at most twenty fields", fields <= 20);
            if (c == WayGuesses.class) continue;
            int how = c.getModifiers();
            Check.that(c + " is static and not public", Modifier.isStatic(how) && !Modifier.isPublic(how) && !Modifier.isProtected(how));
        }
    }

    private static void text() throws IOException {
        List<String> lines = Files.readAllLines(Path.of("src/main/java/WayGuesses.java"));
        int start = -1;
        String depth = "";
        for (int i = 0; i < lines.size(); i++) {
            String line = lines.get(i);
            String code = line.contains("//") ? line.substring(0, line.indexOf("//")) : line;
            for (String word : FORBIDDEN) Check.that("line " + (i + 1) + " has no " + word, !code.contains(word));
            for (Matcher m = LIBRARY.matcher(code); m.find();) {
                Check.that("line " + (i + 1) + ": rule 4 has " + m.group(), code.startsWith("import") || LIBRARY_USED.contains(m.group()));
            }
            if (code.startsWith("import")) Check.that(code, code.equals("import java.util.Arrays;"));
            String indent = code.substring(0, code.length() - code.stripLeading().length());
            if (code.endsWith(") {") && indent.length() <= 8 && !code.contains("class ") && (start < 0 || indent.length() <= depth.length())) {
                start = i;
                depth = indent;
            }
            if (start >= 0 && code.equals(depth + "}")) {
                Check.that("the method at line " + (start + 1) + " has at most sixty lines", i - start + 1 <= 60);
                start = -1;
            }
        }
    }

    /** The document's own lines of the face stand in the class, each group behind the line that is ahead of it. */
    private static void interfaceOfTheDocument() throws IOException {
        String code = Files.readString(Path.of("src/main/java/WayGuesses.java"));
        List<String> lines = Files.readAllLines(Path.of("../shared/DOC.md"));
        int groups = 0;
        for (String line : lines) {
            String text = line.trim();
            if (text.startsWith("public ") && text.endsWith(";")) {
                String start = text.substring(0, text.length() - 1);
                Check.that("the class has: " + text, code.contains(text) || code.contains("    " + start + " {"));
            }
            if (!text.startsWith("Ahead of the calls ")) continue;
            groups++;
            aheadOfItsCalls(code, text);
        }
        Check.due("groups of calls", groups, 3);
    }

    private static void aheadOfItsCalls(String code, String sentence) {
        String[] halves = sentence.split(" the interface says: ");
        String head = "// " + halves[1].substring(0, halves[1].length() - 1);
        int from = code.indexOf(head), to = code.indexOf("// ----", from + 1);
        Check.that("the class has: " + head, from >= 0 && to > from);
        for (String quoted : halves[0].split("`")) {
            if (!quoted.matches("[a-z]+")) continue;
            int at = code.indexOf("public int " + quoted + "(");
            Check.that(quoted + "() stands behind " + head, from < at && at < to);
        }
    }

    /** Calls make objects only for new GUESSERS and new places of keep(), so what is kept is all that was made. */
    private static void room() {
        WayGuesses x = new WayGuesses();
        for (int g = 0; g < 8; g++) x.guesser(g % 2 == 0 ? 2 : 4, g % 2 == 0 ? 8 : 7, 4, 0);
        for (int g = 0; g < 8; g++) x.keep(g, 0);
        for (int g = 0; g < 8; g++) x.keep(g, 1);
        long first = Snapshot.elementsOf(x);
        for (int i = 0; i < 40; i++) {
            x.branch(i, 1);
            for (int g = 0; g < 8; g++) x.keep(g, i % 2);
            x.best(8, true);
            x.seen(8, false);
        }
        Check.due("elements after more calls", Snapshot.elementsOf(x), first);
        Check.that("the room holds " + first + " elements", first < MOST_ELEMENTS);
    }
}

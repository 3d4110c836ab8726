import java.io.IOException;
import java.nio.file.Files;
import java.nio.file.Path;
import java.util.ArrayList;
import java.util.List;
import java.util.stream.Collectors;
import java.util.stream.Stream;

/** What README.md says of the tests holds: .ci/run on small checkouts, the commands for one test, the list of files. */
public final class CiTest {
    private static final String EMPTY_CLASS = "public final class WayGuesses {\n}\n";

    /** A folder with a small checkout beside a folder shared, and what .ci/run must answer there. */
    private static final class Checkout {
        final String name;
        final int due;
        final Path root = Files.createTempDirectory("checkout");
        Shell shell;

        Checkout(String name, int due) throws IOException {
            this.name = name;
            this.due = due;
            Path run = root.resolve("main/.ci/run");
            Files.createDirectories(run.getParent());
            Files.copy(Path.of(".ci/run"), run);
            with("main/src/main/java/WayGuesses.java", EMPTY_CLASS);
            test("main/src/test/java/OneTest.java", 0);
            test("shared/tests/One.java", 0);
        }

        Checkout with(String file, String text) throws IOException {
            Shell.write(root.resolve(file), text);
            return this;
        }

        Checkout test(String file, int exitCode) throws IOException {
            String name = Path.of(file).getFileName().toString().replace(".java", "");
            return with(file, "public final class " + name + " {\n    public static void main(String[] args) {\n"
                + "        new WayGuesses();\n        System.exit(" + exitCode + ");\n    }\n}\n");
        }

        Checkout without(String file) throws IOException {
            Files.delete(root.resolve(file));
            return this;
        }

        void end() throws IOException, InterruptedException {
            Check.due("Tests: .ci/run where " + name + "\n" + shell.printed(), shell.exitCode(), due);
            shell.clear();
            Shell.remove(root);
        }
    }

    public static void main(String[] args) throws Exception {
        Shell alone = Shell.start(Path.of("."), "sh", "-e", "-c", Readme.block(Readme.part("## Tests"), "sh"));
        List<Checkout> all = checkouts();
        // Called from the folder above the checkout: the script finds its own way.
        for (Checkout one : all) one.shell = Shell.start(one.root, "bash", "main/.ci/run");
        for (Checkout one : all) one.end();
        oneTestAlone(alone);
        filesAreNamed();
        Check.that("Tests: .ci/run is executable", Files.isExecutable(Path.of(".ci/run")));
        Check.end("CiTest");
    }

    private static List<Checkout> checkouts() throws IOException {
        List<Checkout> all = new ArrayList<>();
        all.add(new Checkout("all is well", 0));
        all.add(new Checkout("the class does not compile", 1).with("main/src/main/java/WayGuesses.java", "public class"));
        all.add(new Checkout("a test of the project fails", 1).test("main/src/test/java/AnotherTest.java", 1));
        all.add(new Checkout("a test of the project does not compile", 1).with("main/src/test/java/AnotherTest.java", "class"));
        all.add(new Checkout("the first test under shared fails", 1).test("shared/tests/Another.java", 1));
        all.add(new Checkout("the last test under shared fails", 1).test("shared/tests/Two.java", 3));
        all.add(new Checkout("a test under shared does not compile", 1).with("shared/tests/Two.java", "class"));
        all.add(new Checkout("there is no test under shared", 1).without("shared/tests/One.java"));
        return all;
    }

    private static void oneTestAlone(Shell alone) throws IOException, InterruptedException {
        String printed = alone.printed();
        Check.due("Tests: one test alone\n" + printed, alone.exitCode(), 0);
        Check.that("Tests: ModelTest ran alone", printed.contains("ModelTest: "));
        String tests = Readme.part("## Tests");
        int from = tests.indexOf("(`Promise ") + 2;
        String name = tests.substring(from, tests.indexOf('`', from));
        Check.that("Tests: the names told have " + name, printed.contains("\n" + name + "\n"));
        alone.clear();
    }

    private static void filesAreNamed() throws IOException {
        String tests = Readme.part("## Tests");
        List<String> files;
        try (Stream<Path> found = Files.list(Path.of("src/test/java"))) {
            files = found.map(p -> p.getFileName().toString()).collect(Collectors.toList());
        }
        for (String file : files) Check.that("Tests: README.md names " + file, tests.contains(file + "`"));
        for (String word : tests.split("`")) {
            String name = word.substring(word.lastIndexOf('/') + 1);
            if (name.matches("[A-Z][A-Za-z]+\\.java")) Check.that("Tests: there is " + name, files.contains(name));
        }
    }
}

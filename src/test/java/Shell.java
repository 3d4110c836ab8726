import java.io.File;
import java.io.IOException;
import java.nio.file.Files;
import java.nio.file.Path;
import java.util.Comparator;
import java.util.List;
import java.util.stream.Collectors;
import java.util.stream.Stream;

/** One command that was started in a folder: its exit code and all that it printed. */
final class Shell {
    private final Process process;
    private final Path printed;

    private Shell(Process process, Path printed) {
        this.process = process;
        this.printed = printed;
    }

    /** Does not wait, so that several commands can run beside one another. */
    static Shell start(Path folder, String... command) throws IOException {
        // A file takes what is printed: a pipe that nobody reads would make the command wait.
        Path printed = Files.createTempFile("printed", ".txt");
        Process process = new ProcessBuilder(command).directory(folder.toFile()).redirectErrorStream(true)
            .redirectInput(new File("/dev/null")).redirectOutput(printed.toFile()).start();
        return new Shell(process, printed);
    }

    int exitCode() throws InterruptedException {
        return process.waitFor();
    }

    String printed() throws IOException, InterruptedException {
        process.waitFor();
        return Files.readString(printed);
    }

    void clear() throws IOException {
        Files.deleteIfExists(printed);
    }

    static void write(Path file, String text) throws IOException {
        Files.createDirectories(file.getParent());
        Files.writeString(file, text);
    }

    static void remove(Path folder) throws IOException {
        List<Path> all;
        try (Stream<Path> found = Files.walk(folder)) {
            all = found.sorted(Comparator.reverseOrder()).collect(Collectors.toList());
        }
        for (Path one : all) Files.delete(one);
    }
}

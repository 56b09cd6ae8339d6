import java.io.File;
import java.io.IOException;
import java.nio.charset.StandardCharsets;
import java.nio.file.Files;
import java.nio.file.Path;

/** A folder of its own, in which a test writes files and runs commands. */
final class Workshop {
    private final Path folder;
    /** What the last command printed. */
    String printed = "";

    Workshop() throws IOException {
        folder = Files.createTempDirectory("rather-desk");
    }

    void write(String name, String text) throws IOException {
        Path file = folder.resolve(name);
        Files.createDirectories(file.getParent());
        Files.writeString(file, text, StandardCharsets.US_ASCII);
    }

    void copy(String from, String name) throws IOException {
        write(name, Files.readString(Path.of(from), StandardCharsets.US_ASCII));
    }

    /** Where a file of the workshop stands. */
    String place(String name) {
        return folder.resolve(name).toString();
    }

    /** Runs a command in the workshop; returns its exit code. */
    int run(String... words) throws IOException, InterruptedException {
        ProcessBuilder builder = new ProcessBuilder(words);
        builder.directory(folder.toFile());
        builder.redirectErrorStream(true);
        Process process = builder.start();
        printed = new String(process.getInputStream().readAllBytes(), StandardCharsets.US_ASCII);
        return process.waitFor();
    }

    void remove() {
        remove(folder.toFile());
    }

    private static void remove(File file) {
        File[] inside = file.listFiles();
        if (inside != null) {
            for (File one : inside) {
                remove(one);
            }
        }
        Check.due(file + " is removed", true, file.delete());
    }
}

import java.io.IOException;
import java.io.InputStream;
import java.io.UncheckedIOException;
import java.nio.charset.StandardCharsets;
import java.nio.file.Files;
import java.nio.file.Path;
import java.nio.file.StandardCopyOption;
import java.util.Comparator;
import java.util.List;
import java.util.stream.Collectors;
import java.util.stream.Stream;

/** A new directory for a copy of the project, in which commands are run; gone at the end. */
final class Workshop implements AutoCloseable {
    static final Path ROOT = Path.of(System.getProperty("root", ".")).toAbsolutePath();

    private final Path directory;
    private String output = "";

    Workshop() throws IOException {
        directory = Files.createTempDirectory("catalog");
    }

    Path at(String path) {
        return directory.resolve(path);
    }

    void write(String path, String text) throws IOException {
        Files.createDirectories(at(path).getParent());
        Files.writeString(at(path), text);
    }

    /** Copies a file of the project, or all that lie in a directory, with their permissions. */
    void copy(String from, String to) throws IOException {
        Path source = ROOT.resolve(from);
        Files.createDirectories(at(to).getParent());
        for (Path path : under(source)) {
            Path copy = at(to).resolve(source.relativize(path).toString());
            if (Files.isDirectory(path)) {
                Files.createDirectories(copy);
            } else {
                Files.copy(path, copy, StandardCopyOption.COPY_ATTRIBUTES);
            }
        }
    }

    private static List<Path> under(Path path) throws IOException {
        try (Stream<Path> all = Files.walk(path)) {
            return all.collect(Collectors.toList());
        }
    }

    /** The exit code; a command that fails ends the others too. What goes to stderr is left. */
    int run(String path, String commands) throws IOException, InterruptedException {
        Process process = new ProcessBuilder("sh", "-e", "-c", commands)
                .directory(at(path).toFile())
                .redirectError(ProcessBuilder.Redirect.DISCARD).start();
        process.getOutputStream().close();
        try (InputStream stream = process.getInputStream()) {
            output = new String(stream.readAllBytes(), StandardCharsets.UTF_8);
        }
        return process.waitFor();
    }

    /** What the last commands printed. */
    String output() {
        return output;
    }

    @Override
    public void close() {
        try {
            List<Path> all = under(directory);
            all.sort(Comparator.reverseOrder());
            for (Path path : all) {
                Files.delete(path);
            }
        } catch (IOException e) {
            throw new UncheckedIOException(e);
        }
    }
}

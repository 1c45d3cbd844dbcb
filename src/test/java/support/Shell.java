import java.io.IOException;
import java.nio.file.Files;
import java.nio.file.Path;
import java.util.ArrayList;
import java.util.List;

/** A directory of its own, in which files are put and commands run as one would type them. */
final class Shell {
    final Path directory;
    int exitCode;
    String printed = "";

    Shell() throws IOException {
        directory = Files.createTempDirectory("shell");
    }

    void write(String name, String text) throws IOException {
        Path file = directory.resolve(name);
        Files.createDirectories(file.getParent());
        Files.writeString(file, text);
    }

    /** A file, or a directory with all that is in it, under the name that is given; what may be run stays so. */
    void copy(Path from, String name) throws IOException {
        Path to = directory.resolve(name);
        Files.createDirectories(to.getParent());
        if (Files.isDirectory(from)) {
            for (Path inside : inside(from)) {
                copy(inside, name + "/" + inside.getFileName());
            }
        } else {
            Files.copy(from, to);
            to.toFile().setExecutable(Files.isExecutable(from));
        }
    }

    void run(String within, String commands) throws IOException, InterruptedException {
        ProcessBuilder shell = new ProcessBuilder("bash", "-e", "-c", commands);
        shell.directory(directory.resolve(within).toFile());
        shell.redirectErrorStream(true);
        Process process = shell.start();
        printed = new String(process.getInputStream().readAllBytes());
        exitCode = process.waitFor();
    }

    void delete(String name) throws IOException {
        remove(directory.resolve(name));
    }

    void close() throws IOException {
        remove(directory);
    }

    private static void remove(Path path) throws IOException {
        if (Files.isDirectory(path)) {
            for (Path inside : inside(path)) {
                remove(inside);
            }
        }
        Files.delete(path);
    }

    private static List<Path> inside(Path directory) throws IOException {
        List<Path> all = new ArrayList<>();
        try (var list = Files.newDirectoryStream(directory)) {
            list.forEach(all::add);
        }
        return all;
    }
}

import java.io.IOException;
import java.nio.file.Files;
import java.nio.file.Path;
import java.nio.file.StandardCopyOption;
import java.util.Comparator;
import java.util.List;
import java.util.stream.Collectors;
import java.util.stream.Stream;

/** A small project of its own, with the real program and the real .ci/run, to run commands in. */
final class Scratch implements AutoCloseable {
    private static final String PROGRAM = "src/main/java/WordLists.java";
    private static final String CI = ".ci/run";

    private final Path top;
    private final Path project;
    private int exitCode;
    private List<String> printed;

    Scratch() throws IOException {
        top = Files.createTempDirectory("wordlists");
        project = top.resolve("main");
        copy(PROGRAM);
        copy(CI);
    }

    /** With its attributes: a command that is not executable here must not be so there. */
    private void copy(String file) throws IOException {
        Path target = project.resolve(file);
        Files.createDirectories(target.getParent());
        Files.copy(Path.of(file), target, StandardCopyOption.COPY_ATTRIBUTES);
    }

    Scratch write(String file, String text) throws IOException {
        Path target = project.resolve(file).normalize();
        Files.createDirectories(target.getParent());
        Files.writeString(target, text);
        return this;
    }

    /** What the commands print as errors is kept apart: the machine may print there on its own. */
    Scratch run(String commands) throws IOException, InterruptedException {
        Process process = new ProcessBuilder("sh", "-e", "-c", commands)
            .directory(project.toFile())
            .redirectInput(ProcessBuilder.Redirect.from(Path.of("/dev/null").toFile()))
            .redirectError(top.resolve("errors").toFile())
            .start();
        printed = new String(process.getInputStream().readAllBytes()).lines().collect(Collectors.toList());
        exitCode = process.waitFor();
        return this;
    }

    int exitCode() {
        return exitCode;
    }

    List<String> printed() {
        return printed;
    }

    String all() throws IOException {
        return "exit code " + exitCode + ", printed " + printed + ", errors " + Files.readString(top.resolve("errors"));
    }

    @Override
    public void close() throws IOException {
        List<Path> paths;
        try (Stream<Path> walk = Files.walk(top)) {
            paths = walk.sorted(Comparator.reverseOrder()).collect(Collectors.toList());
        }
        for (Path path : paths) {
            Files.delete(path);
        }
    }
}

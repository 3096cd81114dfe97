import java.io.IOException;
import java.io.UncheckedIOException;
import java.nio.charset.StandardCharsets;
import java.nio.file.Path;

/** Commands as they would be typed, with what they print and their exit code. */
final class Shell {
    record Ended(int code, String printed) {
    }

    private Shell() {
    }

    /** Stops at the first command that fails. */
    static Ended run(Path directory, String commands) {
        ProcessBuilder builder = new ProcessBuilder("sh", "-e", "-c", commands);
        builder.directory(directory.toFile()).redirectErrorStream(true);
        try {
            Process process = builder.start();
            process.getOutputStream().close();
            String printed = new String(process.getInputStream().readAllBytes(), StandardCharsets.UTF_8);
            return new Ended(process.waitFor(), printed);
        } catch (IOException e) {
            throw new UncheckedIOException(e);
        } catch (InterruptedException e) {
            throw new IllegalStateException(e);
        }
    }
}

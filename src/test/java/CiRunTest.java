import java.io.IOException;
import java.nio.file.Files;
import java.nio.file.Path;
import java.nio.file.StandardCopyOption;
import java.util.Comparator;
import java.util.List;
import java.util.stream.Collectors;
import java.util.stream.Stream;

/** .ci/run passes a small project whose tests pass, and refuses it as soon as one part of it does not stand. */
public final class CiRunTest {
    private static final Path ROOT = Path.of("").toAbsolutePath();
    private static final Path TRIES = ROOT.resolve("build/tries");
    private static final String CLASS = "src/main/java/HandCases.java";
    private static final String OWN = "src/test/java/OwnTest.java";
    private static final String SHARED = "../shared/tests/Given.java";

    private static final Check CHECK = new Check("CiRunTest");

    public static void main(String[] args) throws IOException {
        clear();
        ends("all pass", project("all"), 0, "2 passed, 0 failed");

        Path own = project("own");
        Files.writeString(own.resolve(OWN), test("OwnTest", 1));
        ends("a test of the project fails", own, 1, "1 passed, 1 failed");

        Path shared = project("given");
        Files.writeString(shared.resolve(SHARED), test("Given", 1));
        ends("a test under ../shared/tests fails", shared, 1, "1 passed, 1 failed");

        Path thrown = project("thrown");
        Files.writeString(thrown.resolve(OWN), test("OwnTest", 1).replace("System.exit(1)", "assert false"));
        ends("a test of the project is stopped by an assertion", thrown, 1, "1 passed, 1 failed");

        Path unread = project("unread");
        Files.writeString(unread.resolve(SHARED), "no Java");
        ends("a test under ../shared/tests does not compile", unread, 1, "1 passed, 1 failed");

        Path broken = project("broken");
        Files.writeString(broken.resolve(CLASS), "no Java");
        ends("the class does not compile", broken, 1, null);

        Path bare = project("bare");
        Files.delete(bare.resolve(SHARED));
        ends("nothing is under ../shared/tests", bare, 1, "1 passed, 1 failed");
        CHECK.end();
    }

    private static void ends(String what, Path project, int code, String lastLine) {
        // From elsewhere: it finds its project, and ../shared beside it, by its own place.
        Shell.Ended ended = Shell.run(TRIES, project.resolve(".ci/run").toString());
        CHECK.same("exit code: " + what, ended.code(), code);
        if (lastLine != null) {
            String[] lines = ended.printed().split("\n");
            CHECK.same("last line: " + what, lines[lines.length - 1], lastLine);
        }
    }

    /** A project with the class, one test of its own and one under ../shared/tests; both pass. */
    private static Path project(String name) throws IOException {
        Path project = TRIES.resolve(name).resolve("main");
        for (String file : List.of(".ci/run", CLASS, OWN, SHARED)) {
            Files.createDirectories(project.resolve(file).normalize().getParent());
        }
        Files.copy(ROOT.resolve(".ci/run"), project.resolve(".ci/run"), StandardCopyOption.COPY_ATTRIBUTES);
        Files.copy(ROOT.resolve(CLASS), project.resolve(CLASS));
        Files.writeString(project.resolve(OWN), test("OwnTest", 0));
        Files.writeString(project.resolve(SHARED), test("Given", 0));
        return project;
    }

    private static String test(String name, int code) {
        return "public final class " + name + " { public static void main(String[] args) { "
            + "if (new HandCases(3).count(0) == 3) { System.exit(" + code + "); } } }\n";
    }

    private static void clear() throws IOException {
        if (Files.exists(TRIES)) {
            List<Path> all;
            try (Stream<Path> found = Files.walk(TRIES)) {
                all = found.sorted(Comparator.reverseOrder()).collect(Collectors.toList());
            }
            for (Path one : all) {
                Files.delete(one);
            }
        }
        Files.createDirectories(TRIES);
    }
}

import java.io.IOException;
import java.nio.file.Files;
import java.nio.file.Path;
import java.util.ArrayList;
import java.util.List;
import java.util.Set;
import java.util.TreeSet;
import java.util.regex.Matcher;
import java.util.regex.Pattern;

/** README.md, tried as it is written: its program, its commands and what they print, its calls and their answers. */
public final class ReadmeTest {
    private static final Path ROOT = Path.of("").toAbsolutePath();
    private static final Path CALLS = ROOT.resolve("build/readme");

    private static final Pattern BLOCK = Pattern.compile("(?ms)^```(\\w+)\\n(.*?)^```\\n");
    private static final Pattern CLASS = Pattern.compile("public final class (\\w+) ");
    private static final Pattern CALL = Pattern.compile(
        "(cases\\.(\\w+)\\(.*\\)); +// (throws \\w+|-?\\d+|true|false): .+");
    private static final Pattern NAMED_TEST = Pattern.compile("`(\\w+Test)`");

    private record Block(String kind, String text) {
    }

    private final Check check = new Check("ReadmeTest");
    private final String readme;
    private final List<Block> blocks = new ArrayList<>();

    private ReadmeTest(String readme) {
        this.readme = readme;
        Matcher found = BLOCK.matcher(readme);
        while (found.find()) {
            blocks.add(new Block(found.group(1), found.group(2)));
        }
    }

    public static void main(String[] args) throws IOException {
        ReadmeTest test = new ReadmeTest(Files.readString(ROOT.resolve("README.md")));
        test.programs();
        test.commands();
        test.calls();
        test.namedTests();
        test.check.end();
    }

    /** Keeps each program where the page says that it is kept, for the commands. */
    private void programs() throws IOException {
        int some = 0;
        for (Block block : blocks) {
            Matcher name = CLASS.matcher(block.text());
            if (block.kind().equals("java") && name.find()) {
                Path file = ROOT.resolve("build").resolve(name.group(1) + ".java");
                Files.createDirectories(file.getParent());
                Files.writeString(file, block.text());
                some++;
            }
        }
        check.same("programs on the page", some, 1);
    }

    private void commands() {
        int some = 0;
        int told = 0;
        boolean ciRun = false;
        for (int i = 0; i < blocks.size(); i++) {
            String text = blocks.get(i).text();
            if (!blocks.get(i).kind().equals("sh")) {
                continue;
            }
            // That is what runs this test; CiRunTest tries it on projects of its own.
            if (text.equals(".ci/run\n")) {
                ciRun = Files.isExecutable(ROOT.resolve(".ci/run"));
                continue;
            }
            Shell.Ended ended = Shell.run(ROOT, text);
            check.same("exit code of " + text, ended.code(), 0);
            some++;
            if (i + 1 < blocks.size() && blocks.get(i + 1).kind().equals("text")) {
                check.same("what is printed by " + text, ended.printed(), blocks.get(i + 1).text());
                told++;
            }
        }
        check.same("groups of commands on the page", some, 3);
        check.same("of which the page tells what they print", told, 2);
        check.same(".ci/run stands on the page and can be run", ciRun, true);
    }

    /** The lines with one call each become a program that compares the answers with what stands behind them. */
    private void calls() throws IOException {
        Set<String> called = new TreeSet<>();
        StringBuilder body = new StringBuilder();
        for (Block block : blocks) {
            if (block.kind().equals("java") && !CLASS.matcher(block.text()).find()) {
                String[] lines = block.text().split("\n");
                body.append("        ").append(lines[0]).append('\n');
                for (int i = 1; i < lines.length; i++) {
                    body.append(comparison(lines[i], called));
                }
            }
        }
        check.same("called on the page", called.toString(), "[bundle, count, drawer, frame, hold, house, item, lies,"
            + " list, minutes, point, put, sample, sort, stray, teaching]");
        Files.createDirectories(CALLS);
        Files.writeString(CALLS.resolve("Calls.java"), programOf(body.toString()));
        Shell.Ended ended = Shell.run(ROOT, "javac --release 17 -d build/readme src/main/java/HandCases.java"
            + " build/readme/Calls.java && java -cp build/readme Calls");
        check.same("the calls", ended.printed(), "");
        check.same("exit code of the calls", ended.code(), 0);
    }

    private String comparison(String line, Set<String> called) {
        Matcher parts = CALL.matcher(line);
        if (!parts.matches()) {
            check.fail("not a call with its answer: " + line);
            return "";
        }
        called.add(parts.group(2));
        return "        same(\"" + parts.group(1) + "\", () -> " + parts.group(1) + ", \"" + parts.group(3) + "\");\n";
    }

    private static String programOf(String body) {
        return String.join("\n",
            "public final class Calls {",
            "    public static void main(String[] args) {",
            body,
            "    }",
            "    static void same(String call, java.util.function.Supplier<Object> asked, String due) {",
            "        String got;",
            "        try {",
            "            got = String.valueOf(asked.get());",
            "        } catch (RuntimeException e) {",
            "            got = \"throws \" + e.getClass().getSimpleName();",
            "        }",
            "        if (!got.equals(due)) {",
            "            System.out.println(call + \" answered \" + got + \", README.md says \" + due);",
            "        }",
            "    }",
            "}",
            "");
    }

    private void namedTests() throws IOException {
        Set<String> named = new TreeSet<>();
        Matcher found = NAMED_TEST.matcher(readme);
        while (found.find()) {
            named.add(found.group(1));
        }
        Set<String> there = new TreeSet<>();
        try (var files = Files.newDirectoryStream(ROOT.resolve("src/test/java"), "*Test.java")) {
            files.forEach(file -> there.add(file.getFileName().toString().replace(".java", "")));
        }
        check.same("the tests that the page names", named.toString(), there.toString());
    }
}

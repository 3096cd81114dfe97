import java.io.IOException;
import java.nio.file.Files;
import java.nio.file.Path;
import java.util.ArrayList;
import java.util.LinkedHashMap;
import java.util.List;
import java.util.Map;
import java.util.Set;
import java.util.TreeSet;
import java.util.regex.Matcher;
import java.util.regex.Pattern;

/** The rules of ../shared/LANGUAGE.md that the text of the class tells. */
public final class LanguageTest {
    private static final Path FILE = Path.of("src/main/java/HandCases.java");
    private static final int DEEPEST = 8;
    private static final int LONGEST = 60;

    private static final String EXCEPTIONS = "IllegalStateException|IllegalArgumentException|IndexOutOfBoundsException"
        + "|ArithmeticException|UnsupportedOperationException|NoSuchElementException|RuntimeException";
    private static final Set<String> IMPORTS = Set.of("java.util.Arrays", "java.util.ArrayList", "java.util.List",
        "java.util.Iterator", "java.util.NoSuchElementException");
    // What begins with a capital letter and has small ones too: the library's names, and the class's own.
    private static final Set<String> NAMES = Set.of("Arrays", "Math", "Integer", "Long", "String", "StringBuilder",
        "ArrayList", "List", "Iterator", "Iterable", "Comparable", "System", "IllegalArgumentException",
        "IndexOutOfBoundsException", "HandCases", "Place");
    private static final Set<String> CALLS = Set.of("Arrays.fill", "Arrays.copyOf", "Arrays.copyOfRange", "Math.max",
        "Math.min", "Math.abs", "Math.floorDiv", "Math.floorMod", "System.arraycopy");

    private static final Pattern METHOD = Pattern.compile(
        "(?ms)^    (?:public|private) (?:static )?(?:[\\w\\[\\]]+ )?(\\w+)\\([^)]*\\)[^;{=]*\\{\\n(.*?)^    \\}\\n");

    private final Check check = new Check("LanguageTest");
    private final String text;
    private final String code;
    private final Map<String, String> methods = new LinkedHashMap<>();

    private LanguageTest(String text) {
        this.text = text;
        String bare = text.replaceAll("(?s)/\\*.*?\\*/", "").replaceAll("//[^\\n]*", "");
        this.code = bare.replaceAll("\"[^\"\\n]*\"", "\"\"");
        Matcher found = METHOD.matcher(code);
        while (found.find()) {
            methods.put(found.group(1), found.group(2));
        }
    }

    public static void main(String[] args) throws IOException {
        LanguageTest test = new LanguageTest(Files.readString(FILE));
        // Else a method written in another form would go unread.
        test.check.same("all methods are found in the text",
            test.methods.size() >= HandCases.class.getDeclaredMethods().length, true);
        test.words();
        test.library();
        test.exceptions();
        test.lengths();
        test.depth();
        test.check.end();
    }

    private void none(String rule, String pattern) {
        check.same(rule, all(pattern).toString(), "[]");
    }

    private Set<String> all(String pattern) {
        Set<String> all = new TreeSet<>();
        Matcher found = Pattern.compile(pattern).matcher(code);
        while (found.find()) {
            all.add(found.group());
        }
        return all;
    }

    private void words() {
        none("no package line", "\\bpackage\\b");
        none("2: no lambda, no method reference", "->|::");
        none("3: neither floats nor NaN are needed", "\\b(double|float)\\b");
        check.same("4: signs 1 to 127", text.chars().allMatch(sign -> sign >= 1 && sign <= 127), true);
        none("6: words that are ruled out", "\\b(synchronized|assert|finally|yield|native|volatile|transient)\\b");
        none("6: no equals, hashCode or toString", "\\b(equals|hashCode|toString)\\b");
        none("9: no loop without an end", "while \\(true\\)|for \\(;|; ;");
        none("10: no texts joined by +", "\"\" \\+|\\+ \"\"");
    }

    private void library() {
        Set<String> imports = all("(?<=import )[\\w.]+(?=;)");
        imports.removeAll(IMPORTS);
        check.same("4: imports", imports.toString(), "[]");
        Set<String> names = all("\\b[A-Z]\\w*[a-z]\\w*\\b");
        names.removeAll(NAMES);
        check.same("4: names of the library", names.toString(), "[]");
        Set<String> calls = all("\\b(Arrays|Math|Integer|Long|System|List)\\.\\w+(?=\\()");
        calls.removeAll(CALLS);
        check.same("4: calls of the library", calls.toString(), "[]");
        none("5: no static initialiser", "static \\{");
    }

    private void exceptions() {
        Set<String> thrown = all("\\bthrow\\b[^;]*;");
        thrown.removeIf(one -> one.matches("throw new (" + EXCEPTIONS + ")\\((\"\")?\\);"));
        check.same("6: what is thrown", thrown.toString(), "[]");
        check.same("6: no throw in a constructor", methods.get("HandCases").contains("throw"), false);
    }

    private void lengths() {
        List<String> tooLong = new ArrayList<>();
        methods.forEach((name, body) -> {
            if (body.lines().count() > LONGEST) {
                tooLong.add(name);
            }
        });
        check.same("11: methods that are too long", tooLong.toString(), "[]");
        check.same("11: at most twelve classes", all("\\b(class|enum|record|interface) \\w+").size() <= 12, true);
    }

    private void depth() {
        List<String> tooDeep = new ArrayList<>();
        for (String name : methods.keySet()) {
            if (depthOf(name, 1) > DEEPEST) {
                tooDeep.add(name);
            }
        }
        check.same("11: methods from which calls go too deep", tooDeep.toString(), "[]");
    }

    /** The calls that stand open at once below this one, itself counted; no more than one beyond the deepest. */
    private int depthOf(String name, int level) {
        int deepest = level;
        if (level > DEEPEST) {
            return level;
        }
        Matcher call = Pattern.compile("(?<!\\.)\\b(\\w+)\\(").matcher(methods.get(name));
        while (call.find()) {
            if (methods.containsKey(call.group(1))) {
                deepest = Math.max(deepest, depthOf(call.group(1), level + 1));
            }
        }
        return deepest;
    }
}

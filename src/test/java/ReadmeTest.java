import java.io.IOException;
import java.nio.file.DirectoryStream;
import java.nio.file.Files;
import java.nio.file.Path;
import java.util.ArrayList;
import java.util.List;
import java.util.Set;
import java.util.TreeSet;
import java.util.regex.Matcher;
import java.util.regex.Pattern;

/** README.md: its calls answer what it says of them, all calls are shown, and its tables leave nothing out. */
public final class ReadmeTest {
    private static final Path README = Path.of("README.md");
    private static final Path TESTS = Path.of("src/test/java");
    private static final String FENCE = "```";
    private static final int SCRIPT_WORDS = 40;
    private static final Pattern CALL_ROW = Pattern.compile("\\| `(\\w+) (\\w+)\\(([^)]*)\\)` \\| .+ \\| (.+) \\|");
    private static final Pattern TEST_ROW = Pattern.compile("\\| ((?:\\w+Test, )*\\w+Test) \\| .+ \\|");

    public static void main(String[] args) throws IOException {
        Script script = new Script();
        List<String> lines = Files.readAllLines(README);
        examples(script, lines);
        callTable(script, lines);
        testScripts(script, lines);
        testTable(script, lines);
        script.end();
    }

    private static void examples(Script script, List<String> lines) {
        Set<String> called = new TreeSet<>();
        for (List<String> block : blocks(lines, "java")) {
            Example example = new Example(script);
            block.forEach(example::run);
            called.addAll(example.called());
        }
        for (String method : FaceTest.FACE) {
            String name = method.split(" ")[1];
            script.isTrue("README.md shows no call of " + name, called.contains(name));
        }
    }

    private static void callTable(Script script, List<String> lines) {
        List<String> rows = new ArrayList<>();
        for (String line : lines) {
            Matcher row = CALL_ROW.matcher(line);
            if (row.matches()) {
                rows.add(asInFace(row));
            }
        }
        script.isTrue("README.md lists " + rows, rows.equals(List.of(FaceTest.FACE)));
    }

    private static String asInFace(Matcher row) {
        int parameters = row.group(3).isEmpty() ? 0 : row.group(3).split(", ").length;
        StringBuilder text = new StringBuilder();
        text.append(row.group(1)).append(' ').append(row.group(2)).append(' ').append(parameters);
        for (String exception : row.group(4).split(", ")) {
            text.append(' ').append(Step.EXCEPTIONS.get(exception));
        }
        return text.toString();
    }

    private static void testScripts(Script script, List<String> lines) {
        List<List<String>> scripts = blocks(lines, "text");
        script.isTrue("README.md shows no script", !scripts.isEmpty());
        for (List<String> block : scripts) {
            script.run("README.md", SCRIPT_WORDS, block.toArray(new String[0]));
        }
    }

    private static void testTable(Script script, List<String> lines) throws IOException {
        Set<String> listed = new TreeSet<>();
        for (String line : lines) {
            Matcher row = TEST_ROW.matcher(line);
            if (row.matches()) {
                listed.addAll(List.of(row.group(1).split(", ")));
            }
        }
        Set<String> present = new TreeSet<>();
        try (DirectoryStream<Path> tests = Files.newDirectoryStream(TESTS, "*Test.java")) {
            tests.forEach(test -> present.add(test.getFileName().toString().replace(".java", "")));
        }
        script.isTrue("README.md lists " + listed + ", there are " + present, listed.equals(present));
    }

    /** The lines of each block that begins with this tag. */
    private static List<List<String>> blocks(List<String> lines, String tag) {
        List<List<String>> blocks = new ArrayList<>();
        List<String> open = null;
        for (String line : lines) {
            if (!line.startsWith(FENCE)) {
                if (open != null) {
                    open.add(line);
                }
            } else if (line.equals(FENCE + tag)) {
                open = new ArrayList<>();
                blocks.add(open);
            } else {
                open = null;
            }
        }
        return blocks;
    }
}

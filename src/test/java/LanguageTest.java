import java.io.IOException;
import java.nio.file.Files;
import java.nio.file.Path;
import java.util.Set;
import java.util.regex.Matcher;
import java.util.regex.Pattern;

/** The rules of LANGUAGE.md, as far as the program's text shows whether they are kept. */
public final class LanguageTest {
    private static final Path PROGRAM = Path.of("src/main/java/CopyHeaps.java");

    private static final int MOST_CLASSES = 12;
    private static final int MOST_LINES = 60;
    private static final int MOST_PARAMETERS = 7;
    private static final int MOST_DEPTH = 8;

    /** What rule 4 lists and this program may need. */
    private static final Set<String> LIBRARY = Set.of(
            "ArrayList", "add", "get", "set", "remove", "size", "isEmpty", "clear", "max", "min", "arraycopy", "fill",
            "IllegalStateException", "IllegalArgumentException", "IndexOutOfBoundsException",
            "UnsupportedOperationException");

    /** With the number of the rule that rules it out. */
    private static final String[][] RULED_OUT = {
        {"1", "\\bprotected\\b"},
        {"2", "->|::"},
        {"3", "\\b(Object|Map|Set|Deque|Optional|var|double|float|String)\\b"},
        {"4", "\\b(?!Math\\b|Arrays\\b|System\\b)[A-Z]\\w*\\.\\w+\\(|\\bSystem\\.(?!arraycopy)|\\bjava\\.(?!util\\.A)"},
        {"5", "\\bstatic\\s*\\{|\\bstatic\\s+(?!final\\b)[\\w\\[\\]<>]+\\s+\\w+\\s*[=;]"},
        {"6", "\\b(try|catch|finally|synchronized|assert|getMessage|equals|hashCode|toString)\\b"},
        {"6", "\\bthrow\\b(?! new Il| new In| new Un)|\\bextends\\b"},
        {"7", "/(?! HEAP_STEP)|%(?! MOST_MESSAGES)"},
        {"9", "while \\(true\\)|for \\([^;]*;\\s*;"},
        {"10", "\""},
        {"13", "\\b(Thread|Random|random|nanoTime|currentTimeMillis|native|volatile|transient)\\b"}
    };

    public static void main(String[] args) throws IOException {
        Script script = new Script();
        Source source = new Source(Files.readString(PROGRAM));
        for (String[] row : RULED_OUT) {
            Matcher found = Pattern.compile(row[1]).matcher(source.text());
            while (found.find()) {
                script.isTrue("rule " + row[0] + ": " + found.group(), false);
            }
        }
        for (String name : source.libraryCalls()) {
            script.isTrue("rule 4: " + name, LIBRARY.contains(name));
        }
        script.isTrue("rule 1: a package", !source.text().contains("package "));
        script.isTrue("rule 1: what is public", occurrences(source, "\\bpublic\\b") == FaceTest.FACE.length + 2);
        script.isTrue("rule 11: many classes", occurrences(source, "\\b(class|record|enum) \\w+") <= MOST_CLASSES);
        source.methods().forEach(method -> checkMethod(script, source, method));
        script.end();
    }

    private static void checkMethod(Script script, Source source, Source.Declared method) {
        boolean makes = Character.isUpperCase(method.name().charAt(0));
        script.isTrue("rule 6: " + method.key() + " throws", !makes || !method.body().contains("throw "));
        script.isTrue("rule 11: " + method.key() + " is long", method.lines() <= MOST_LINES);
        script.isTrue("rule 11: " + method.key() + " takes much", method.parameters() <= MOST_PARAMETERS);
        int depth = source.depthOf(method.key());
        script.isTrue("rules 8 and 11: " + method.key() + " goes " + depth + " deep", depth <= MOST_DEPTH);
    }

    private static long occurrences(Source source, String pattern) {
        return Pattern.compile(pattern).matcher(source.text()).results().count();
    }
}

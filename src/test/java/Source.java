import java.util.ArrayList;
import java.util.HashMap;
import java.util.HashSet;
import java.util.List;
import java.util.Map;
import java.util.Set;
import java.util.TreeSet;
import java.util.regex.Matcher;
import java.util.regex.Pattern;

/**
 * The methods and constructors that a program's text declares, and which of them call which. They are told by their
 * names and by how many parameters they have; where two classes have methods that are alike in both, a call is taken as
 * one of each.
 */
final class Source {
    private static final Pattern COMMENT = Pattern.compile("/\\*.*?\\*/|//[^\\n]*", Pattern.DOTALL);
    private static final Pattern DECLARES =
            Pattern.compile("\\b(\\w+)\\(([^()]*)\\)\\s*(?:throws\\s+[\\w,\\s]+)?\\{");
    private static final Pattern CALLS = Pattern.compile("\\b(\\w+)(?:<>)?\\(");
    private static final Set<String> NO_METHODS = Set.of("if", "for", "while", "switch", "catch");

    /** A declared method with its body, braces included. */
    record Declared(String name, int parameters, String body) {
        String key() {
            return name + "/" + parameters;
        }

        long lines() {
            return body.lines().count();
        }
    }

    private final String text;
    private final List<Declared> methods = new ArrayList<>();
    private final Map<String, Integer> depths = new HashMap<>();

    /** Those whose depth is being looked for: one of them that is met again calls itself. */
    private final Set<String> open = new HashSet<>();

    Source(String written) {
        text = COMMENT.matcher(written).replaceAll("");
        Matcher declares = DECLARES.matcher(text);
        while (declares.find()) {
            if (!NO_METHODS.contains(declares.group(1))) {
                int start = declares.end() - 1;
                String body = text.substring(start, endOf(start, '{', '}') + 1);
                methods.add(new Declared(declares.group(1), count(declares.group(2)), body));
            }
        }
    }

    /** Without its comments. */
    String text() {
        return text;
    }

    List<Declared> methods() {
        return methods;
    }

    /** All that is called and not declared here. */
    Set<String> libraryCalls() {
        Set<String> names = new TreeSet<>();
        for (String call : callsIn(text)) {
            names.add(call.split("/")[0]);
        }
        methods.forEach(method -> names.remove(method.name()));
        names.removeIf(name -> text.contains("class " + name + " {"));
        return names;
    }

    /** How many calls of this method and of what it calls stand open at once; more than a thousand for recursion. */
    int depthOf(String key) {
        if (!open.add(key)) {
            return 1000;
        }
        int below = 0;
        if (!depths.containsKey(key)) {
            for (Declared method : methods) {
                if (method.key().equals(key)) {
                    for (String call : callsIn(method.body())) {
                        below = Math.max(below, depthOf(call));
                    }
                    depths.put(key, below + 1);
                }
            }
        }
        open.remove(key);
        return depths.getOrDefault(key, 0);
    }

    private Set<String> callsIn(String code) {
        Set<String> calls = new TreeSet<>();
        Matcher matcher = CALLS.matcher(code);
        while (matcher.find()) {
            if (!NO_METHODS.contains(matcher.group(1))) {
                int start = matcher.end() - 1;
                calls.add(matcher.group(1) + "/" + count(code.substring(start + 1, endOf(code, start, '(', ')'))));
            }
        }
        return calls;
    }

    private int endOf(int start, char opens, char closes) {
        return endOf(text, start, opens, closes);
    }

    private static int endOf(String code, int start, char opens, char closes) {
        int depth = 0;
        for (int i = start; i < code.length(); i++) {
            if (code.charAt(i) == opens) {
                depth++;
            } else if (code.charAt(i) == closes) {
                depth--;
                if (depth == 0) {
                    return i;
                }
            }
        }
        throw new IllegalArgumentException("nothing closes " + code.substring(start));
    }

    /** How many there are between the commas that stand in no brackets. */
    private static int count(String list) {
        if (list.isBlank()) {
            return 0;
        }
        int depth = 0;
        int count = 1;
        for (char c : list.toCharArray()) {
            depth += "([{".indexOf(c) >= 0 ? 1 : 0;
            depth -= ")]}".indexOf(c) >= 0 ? 1 : 0;
            count += c == ',' && depth == 0 ? 1 : 0;
        }
        return count;
    }
}

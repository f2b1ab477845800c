import java.lang.reflect.Method;
import java.util.HashMap;
import java.util.Map;
import java.util.Set;
import java.util.TreeSet;
import java.util.regex.Matcher;
import java.util.regex.Pattern;

/**
 * Calls as a program writes them, one to a line, each with a comment behind it that begins with what it answers or
 * throws; a comment of any other words stands where a call answers nothing.
 */
final class Example {
    private static final Pattern MAKES = Pattern.compile("CopyHeaps heaps = new CopyHeaps\\((\\d+)\\); +// .+");
    private static final Pattern CALLS =
            Pattern.compile("(?:(int|boolean) (\\w+) = )?heaps\\.(\\w+)\\(([^)]*)\\); +// (.+)");
    private static final Pattern TELLS = Pattern.compile("(answers|throws) (-?\\w+)(?:: .+)?");

    private final Script script;
    private final Set<String> called = new TreeSet<>();
    private final Map<String, Integer> numbers = new HashMap<>();
    private Caller caller;

    Example(Script script) {
        this.script = script;
    }

    Set<String> called() {
        return called;
    }

    void run(String line) {
        Matcher makes = MAKES.matcher(line);
        Matcher calls = CALLS.matcher(line);
        if (makes.matches()) {
            script.isTrue("a second object: " + line, caller == null);
            caller = new Caller(new CopyHeaps(Integer.parseInt(makes.group(1))));
        } else if (caller != null && calls.matches()) {
            call(line, calls);
        } else {
            script.isTrue("not a call that can be tested: " + line, false);
        }
    }

    private void call(String line, Matcher calls) {
        String name = calls.group(3);
        called.add(name);
        String answer = caller.call(name, arguments(calls.group(4)));
        String due = due(calls.group(5));
        script.isTrue(line + " answered " + answer + ", due is " + due, answer.equals(due));
        if (calls.group(1) != null) {
            script.isTrue("of another type: " + line, calls.group(1).equals(typeOf(name)));
            script.isTrue("a second time: " + line, !numbers.containsKey(calls.group(2)));
            numbers.put(calls.group(2), answer.matches("-?\\d+") ? Integer.parseInt(answer) : 0);
        }
    }

    private int[] arguments(String text) {
        if (text.isEmpty()) {
            return new int[0];
        }
        String[] written = text.split(", ");
        int[] arguments = new int[written.length];
        for (int i = 0; i < written.length; i++) {
            Integer number = numbers.get(written[i]);
            arguments[i] = number == null ? Integer.parseInt(written[i]) : number;
        }
        return arguments;
    }

    private static String due(String comment) {
        Matcher tells = TELLS.matcher(comment);
        if (!tells.matches()) {
            return Caller.NO_ANSWER;
        }
        return tells.group(1).equals("throws") ? Caller.THROWS + tells.group(2) : tells.group(2);
    }

    private static String typeOf(String name) {
        for (Method method : CopyHeaps.class.getMethods()) {
            if (method.getName().equals(name)) {
                return method.getReturnType().getName();
            }
        }
        return "";
    }
}

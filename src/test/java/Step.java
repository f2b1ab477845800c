import java.util.ArrayList;
import java.util.Arrays;
import java.util.Collections;
import java.util.List;
import java.util.Map;
import java.util.regex.Matcher;
import java.util.regex.Pattern;

/** A call that was written as a text, and the answer that is due; null where it must only not throw. */
record Step(String name, int[] arguments, String due) {
    private static final Pattern TEXT =
            Pattern.compile("(?:(\\d+) x )?(\\w+)\\(([^)]*)\\)(?: = (\\S+)| throws (\\w+))?");

    static final Map<String, String> EXCEPTIONS = Map.of(
            "Index", "IndexOutOfBoundsException",
            "Argument", "IllegalArgumentException",
            "State", "IllegalStateException",
            "Unsupported", "UnsupportedOperationException");

    static List<Step> parse(String... lines) {
        List<Step> steps = new ArrayList<>();
        for (String line : lines) {
            for (String text : line.split(";")) {
                if (!text.isBlank()) {
                    steps.addAll(parseOne(text.trim()));
                }
            }
        }
        return steps;
    }

    private static List<Step> parseOne(String text) {
        Matcher matcher = TEXT.matcher(text);
        if (!matcher.matches()) {
            throw new IllegalArgumentException("not a call: " + text);
        }
        int times = matcher.group(1) == null ? 1 : Integer.parseInt(matcher.group(1));
        String due = matcher.group(5) == null ? matcher.group(4) : Caller.THROWS + EXCEPTIONS.get(matcher.group(5));
        return Collections.nCopies(times, new Step(matcher.group(2), numbers(matcher.group(3)), due));
    }

    private static int[] numbers(String text) {
        if (text.isBlank()) {
            return new int[0];
        }
        return Arrays.stream(text.split(",")).map(String::trim).mapToInt(Integer::parseInt).toArray();
    }

    String callOn(Caller caller) {
        return caller.call(name, arguments);
    }

    boolean isDue(String answer) {
        return due == null ? !answer.startsWith(Caller.THROWS) : answer.equals(due);
    }

    /** Whether it only asks. */
    boolean isQuestion() {
        return List.of("count", "of", "kind", "value", "address", "words", "handles", "equal").contains(name);
    }

    boolean needsRoom() {
        return List.of("pair", "tuple", "blob", "send").contains(name);
    }

    /** The process in whose heap room is made. */
    int roomMaker() {
        return name.equals("send") ? arguments[2] : arguments[0];
    }

    @Override
    public String toString() {
        return name + Arrays.toString(arguments);
    }
}

import java.util.regex.Matcher;
import java.util.regex.Pattern;

/**
 * Runs of calls that are written as texts, with semicolons between the calls: {@code pair(1, 0, 2, 2)} must not throw,
 * {@code spawn() = 3} must answer 3, {@code nil(9, 0) = throws.IndexOutOfBoundsException} must throw that, and {@code
 * 5 x nil(1, 0)} is five such calls. A call that throws must change nothing, unless there was a collection.
 */
final class Script {
    private static final Pattern STEP = Pattern.compile("(?:(\\d+) x )?(\\w+)\\(([^)]*)\\)(?: = (\\S+))?");

    private int wrong;

    void run(String title, int words, String... lines) {
        Caller caller = new Caller(new CopyHeaps(words));
        for (String line : lines) {
            for (String step : line.split(";")) {
                if (!step.isBlank()) {
                    runStep(title, caller, step.trim());
                }
            }
        }
    }

    private void runStep(String title, Caller caller, String step) {
        Matcher matcher = STEP.matcher(step);
        if (!matcher.matches()) {
            throw new IllegalArgumentException("not a call: " + step);
        }
        int times = matcher.group(1) == null ? 1 : Integer.parseInt(matcher.group(1));
        for (int i = 0; i < times; i++) {
            check(title, caller, matcher.group(2), numbers(matcher.group(3)), matcher.group(4));
        }
    }

    private static int[] numbers(String text) {
        if (text.isBlank()) {
            return new int[0];
        }
        String[] parts = text.split(",");
        int[] numbers = new int[parts.length];
        for (int i = 0; i < parts.length; i++) {
            numbers[i] = Integer.parseInt(parts[i].trim());
        }
        return numbers;
    }

    private void check(String title, Caller caller, String name, int[] arguments, String due) {
        String before = caller.state();
        String collectionsBefore = caller.call("count", 4);
        String answer = caller.call(name, arguments);
        String call = title + ": " + name + java.util.Arrays.toString(arguments);
        boolean threw = answer.startsWith(Caller.THROWS);
        if (due == null ? threw : !answer.equals(due)) {
            tell(call + " answered " + answer + ", due is " + (due == null ? "no exception" : due));
        }
        if (threw && collectionsBefore.equals(caller.call("count", 4)) && !before.equals(caller.state())) {
            tell(call + " threw, and changed " + before + " to " + caller.state());
        }
    }

    void isTrue(String what, boolean holds) {
        if (!holds) {
            tell(what);
        }
    }

    private void tell(String text) {
        wrong++;
        System.out.println(text);
    }

    /** Ends the test, with exit code 1 if an answer was not the one that is due. */
    void end() {
        if (wrong > 0) {
            System.exit(1);
        }
    }
}

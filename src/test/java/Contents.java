import java.util.ArrayDeque;
import java.util.Deque;
import java.util.HashSet;
import java.util.Set;

/** All that can be found out about an object, with all parts of parts and the messages. It uses the object up. */
final class Contents {
    /** With more messages there may be none left for the registers, which go through the mailbox. */
    private static final int MOST_MESSAGES = 500;

    private final Caller caller;
    private final StringBuilder text = new StringBuilder();

    private Contents(Caller caller) {
        this.caller = caller;
    }

    static String withCounts(Caller caller) {
        return caller.state() + terms(caller);
    }

    /** Without capacities, and without what is free. */
    static String terms(Caller caller) {
        Contents contents = new Contents(caller);
        for (int process = 1; process <= caller.number("count", 3); process++) {
            if (caller.isAlive(process)) {
                contents.appendProcess(process);
            }
        }
        return contents.text.toString();
    }

    private void appendProcess(int process) {
        text.append("| ").append(process).append(" has ").append(caller.call("of", process, 1)).append(": ");
        if (caller.number("of", process, 2) <= MOST_MESSAGES) {
            for (int r = 0; r <= 3; r++) {
                caller.call("send", process, r, process);
            }
        }
        while (caller.number("of", process, 2) > 0) {
            caller.call("receive", process, 0);
            appendTerm(process);
        }
    }

    /** What register 0 leads to; each structure is gone into once. */
    private void appendTerm(int process) {
        Set<String> addresses = new HashSet<>();
        Deque<int[]> ways = new ArrayDeque<>();
        ways.add(new int[0]);
        while (!ways.isEmpty()) {
            int[] way = ways.removeFirst();
            goDown(process, way);
            String address = caller.call("address", process, 1);
            for (String question : new String[] {"kind", "value", "address", "words", "handles"}) {
                text.append(caller.call(question, process, 1)).append(' ');
            }
            if (addresses.add(address)) {
                for (int k = 0; k < partCount(process); k++) {
                    int[] next = java.util.Arrays.copyOf(way, way.length + 1);
                    next[way.length] = k;
                    ways.add(next);
                }
            }
        }
        text.append(", ");
    }

    private void goDown(int process, int[] way) {
        caller.call("move", process, 1, 0);
        for (int k : way) {
            caller.call("part", process, 1, 1, k);
        }
    }

    private int partCount(int process) {
        int kind = caller.number("kind", process, 1);
        return kind == 3 || kind == 4 ? caller.number("value", process, 1) : 0;
    }
}

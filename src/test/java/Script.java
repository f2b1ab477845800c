import java.util.List;

/**
 * Runs of calls that are written as texts, with semicolons between the calls: {@code pair(1, 0, 2, 2)} must not throw,
 * {@code spawn() = 3} must answer 3, {@code nil(9, 0) throws Index} must throw IndexOutOfBoundsException, and {@code
 * 5 x nil(1, 0)} is five such calls. The object gets these calls and no others.
 *
 * <p>A call that throws, a send that answers false and a question must leave all as it was, but for the collection
 * where there is no room, and for the room that stays where a blob is refused.
 */
final class Script {
    private static final int MOST_CALLS = 512;
    private static final int HEAP_STEP = 8;
    private static final String NO_ROOM = Caller.THROWS + "IllegalStateException";
    private static final String NO_BLOB = Caller.THROWS + "UnsupportedOperationException";

    private int wrong;

    void run(String title, int words, String... lines) {
        List<Step> steps = Step.parse(lines);
        isTrue(title + ": nothing is promised for " + steps.size() + " calls", steps.size() <= MOST_CALLS);
        Caller caller = new Caller(new CopyHeaps(words));
        for (int i = 0; i < steps.size(); i++) {
            Step step = steps.get(i);
            String answer = step.callOn(caller);
            String told = title + ": call " + (i + 1) + ", " + step + " answered " + answer;
            isTrue(told + ", due is " + (step.due() == null ? "no exception" : step.due()), step.isDue(answer));
            if (answer.startsWith(Caller.THROWS) || answer.equals("false") || step.isQuestion()) {
                checkLeftAll(told, words, steps.subList(0, i), step, answer);
            }
        }
    }

    private void checkLeftAll(String told, int words, List<Step> before, Step step, String answer) {
        Caller without = replay(words, before);
        Caller with = replay(words, before);
        step.callOn(with);
        boolean blobRefused = step.name().equals("blob") && answer.equals(NO_BLOB);
        if (step.needsRoom() && answer.equals(NO_ROOM) || blobRefused) {
            collectAsWell(without, with, step);
        }
        int taken = without.number("count", 1) - with.number("count", 1);
        if (blobRefused && taken == HEAP_STEP) {
            int grown = with.number("of", step.roomMaker(), 0) - without.number("of", step.roomMaker(), 0);
            isTrue(told + " and took words for no heap", grown == taken);
            checkAlike(told, Contents.terms(without), Contents.terms(with));
        } else {
            checkAlike(told, Contents.withCounts(without), Contents.withCounts(with));
        }
    }

    private static void collectAsWell(Caller without, Caller with, Step step) {
        if (with.number("count", 4) > without.number("count", 4)) {
            without.call("collect", step.roomMaker());
        }
    }

    private void checkAlike(String told, String due, String got) {
        isTrue(told + " and changed " + due + " to " + got, due.equals(got));
    }

    private static Caller replay(int words, List<Step> steps) {
        Caller caller = new Caller(new CopyHeaps(words));
        for (Step step : steps) {
            step.callOn(caller);
        }
        return caller;
    }

    void isTrue(String what, boolean holds) {
        if (!holds) {
            wrong++;
            System.out.println(what);
        }
    }

    /** Ends the test, with exit code 1 if an answer was not the one that is due. */
    void end() {
        if (wrong > 0) {
            System.exit(1);
        }
    }
}

import java.util.Arrays;
import java.util.List;
import java.util.Random;

/** Rules 6 and 7 of LANGUAGE.md: any arguments in any state, also after the 512th call, throw what the face lists. */
public final class AnyCallsTest {
    private static final int OBJECTS = 40;
    private static final int CALLS = 4000;
    private static final int[] FAR = {
        Integer.MIN_VALUE, Integer.MIN_VALUE + 1, -(1 << 29), -(1 << 27) - 1, -9, -1, 0, 8, 9, 101, 513, 1 << 27,
        1 << 28, 1 << 29, 1 << 30, Integer.MAX_VALUE - 1, Integer.MAX_VALUE
    };

    public static void main(String[] args) {
        Script script = new Script();
        for (int seed = 0; seed < OBJECTS; seed++) {
            drawnCalls(script, new Random(seed));
        }
        manyMessages(script);
        manyProcesses(script);
        script.end();
    }

    private static void drawnCalls(Script script, Random random) {
        Caller caller = new Caller(new CopyHeaps(40 + random.nextInt(561)));
        for (int i = 0; i < CALLS; i++) {
            String method = FaceTest.FACE[random.nextInt(FaceTest.FACE.length)];
            int latest = caller.number("count", 3);
            int[] arguments = ModelTest.draw(random, method.split(" ")[1], latest);
            if (arguments.length > 0 && random.nextInt(8) == 0) {
                arguments[random.nextInt(arguments.length)] = FAR[random.nextInt(FAR.length)];
            }
            checkCall(script, caller, method, arguments);
        }
    }

    private static void manyMessages(Script script) {
        Caller caller = new Caller(new CopyHeaps(40));
        checkCalls(script, caller, 2, "spawn");
        for (int round = 0; round < 2; round++) {
            checkCalls(script, caller, CALLS, "send", 1, 0, 1);
            checkCalls(script, caller, CALLS, "send", 1, 0, 2);
            checkCalls(script, caller, CALLS, "broadcast", 2, 0);
            checkCalls(script, caller, 1, "collect", 1);
            checkCalls(script, caller, CALLS, "receive", 2, 0);
            checkCalls(script, caller, CALLS, "receive", 1, 0);
        }
    }

    private static void manyProcesses(Script script) {
        Caller caller = new Caller(new CopyHeaps(600));
        for (int number = 1; number <= CALLS; number++) {
            checkCalls(script, caller, 2, "spawn");
            checkCalls(script, caller, 1, "name", number, 3, number);
            checkCalls(script, caller, 1, "exit", number);
        }
    }

    private static void checkCalls(Script script, Caller caller, int times, String name, int... arguments) {
        for (String method : FaceTest.FACE) {
            if (method.split(" ")[1].equals(name)) {
                for (int i = 0; i < times; i++) {
                    checkCall(script, caller, method, arguments);
                }
            }
        }
    }

    private static void checkCall(Script script, Caller caller, String method, int... arguments) {
        List<String> words = List.of(method.split(" "));
        String answer = caller.call(words.get(1), arguments);
        boolean listed = words.subList(3, words.size()).contains(answer.replace(Caller.THROWS, ""));
        String told = words.get(1) + Arrays.toString(arguments) + " answered " + answer;
        script.isTrue(told, listed || !answer.startsWith(Caller.THROWS));
    }
}

/**
 * What is thrown: the first of those listed in the heading that holds, where several hold at once; then nothing is
 * changed (which Script looks at), but by a collection where there is no room.
 */
public final class ThrownFirstTest {
    /** No word is free, the heap of process 1 is full of what stays, and in that of process 3 are 8 words that go. */
    private static final String NO_ROOM =
            "5 x spawn(); pair(1, 0, 0, 0); pair(1, 1, 0, 0); pair(1, 2, 1, 1); pair(1, 3, 2, 2); 8 x tuple(3, 0, 0);"
                    + "nil(3, 0); count(1) = 0; of(1, 1) = 8; of(3, 1) = 8; exit(2) = 8; spawn() = 6; ";

    /** Processes 0, 2 and 7 are not alive, there are no registers -1 and 4. */
    private static final int[][] NOBODY_OR_NO_REGISTER = {{0, 0}, {2, 0}, {7, 0}, {1, -1}, {1, 4}, {2, 4}, {7, -1}};

    public static void main(String[] args) {
        Script script = new Script();
        indexBeforeArgument(script);
        indexBeforeState(script);
        indexBeforeFalse(script);
        indexBeforeUnsupported(script);
        argumentBeforeState(script);
        stateBeforeUnsupported(script);
        argumentBeforeUnsupported(script);
        stateBeforeThirtyBlobs(script);
        nothingButACollection(script);
        script.end();
    }

    private static void indexBeforeArgument(Script script) {
        String[] calls = {
            "integer(%d, %d, 134217728)", "integer(%d, %d, -134217729)", "name(%d, %d, 0)", "name(%d, %d, 7)",
            "tuple(%d, %d, -1)", "tuple(%d, %d, 5)", "blob(%d, %d, 0)", "blob(%d, %d, 101)", "part(%d, %d, 0, 2)",
            "part(%d, %d, 0, -1)"
        };
        for (String call : calls) {
            for (int[] row : NOBODY_OR_NO_REGISTER) {
                script.run(
                        "no process or register, before the argument",
                        40,
                        NO_ROOM + String.format(call, row[0], row[1]) + " throws Index",
                        "count(4) = 0");
            }
            script.run(
                    "the argument alone",
                    40,
                    NO_ROOM + String.format(call, 1, 3) + " throws Argument",
                    "count(4) = 0");
        }
        for (int a : new int[] {-1, 4}) {
            script.run(
                    "no register a, before the part",
                    40,
                    NO_ROOM,
                    "part(1, 0, " + a + ", 2) throws Index; part(1, 0, " + a + ", -1) throws Index");
            script.run(
                    "no register a, and none r",
                    40,
                    NO_ROOM,
                    "part(1, " + a + ", " + a + ", 0) throws Index; move(1, " + a + ", " + a + ") throws Index");
        }
        for (int process : new int[] {0, 2, 7, -1}) {
            script.run(
                    "18: no process, before the number",
                    40,
                    NO_ROOM,
                    "of(" + process + ", 3) throws Index; of(" + process + ", -1) throws Index");
        }
        script.run("18: the number alone", 40, NO_ROOM, "of(1, 3) throws Argument; of(6, -1) throws Argument");
    }

    private static void indexBeforeState(Script script) {
        String[] calls = {
            "pair(%d, %d, 0, 0)", "tuple(%d, %d, 0)", "tuple(%d, %d, 4)", "blob(%d, %d, 1)", "send(%d, %d, 3)",
            "send(%d, %d, 1)", "receive(%d, %d)", "broadcast(%d, %d)"
        };
        for (String call : calls) {
            for (int[] row : NOBODY_OR_NO_REGISTER) {
                script.run(
                        "no process or register, before room is looked for and before a message is",
                        40,
                        NO_ROOM + String.format(call, row[0], row[1]) + " throws Index; count(4) = 0; of(3, 1) = 8",
                        "of(1, 2) = 0");
            }
        }
        for (int r : new int[] {-1, 4}) {
            script.run(
                    "8: no register a or b, before room is looked for",
                    40,
                    NO_ROOM + "pair(1, 0, " + r + ", 0) throws Index; pair(1, 0, 0, " + r + ") throws Index",
                    "pair(3, 0, " + r + ", 0) throws Index",
                    "pair(3, 0, 0, " + r + ") throws Index; count(4) = 0; of(3, 1) = 8");
        }
        script.run("8: no room alone", 40, NO_ROOM + "pair(1, 0, 0, 0) throws State; count(4) = 1");
        script.run("9: no room alone", 40, NO_ROOM + "tuple(1, 0, 0) throws State; count(4) = 1");
        script.run("12: no room alone", 40, NO_ROOM + "tuple(4, 0, 0); send(4, 0, 1) throws State; count(4) = 1");
        script.run("14: no message alone", 40, NO_ROOM + "receive(1, 0) throws State; count(4) = 0");
    }

    private static void indexBeforeFalse(Script script) {
        for (int to : new int[] {0, 2, 7, -1}) {
            for (int[] row : NOBODY_OR_NO_REGISTER) {
                script.run(
                        "12: no process or register, before the other one is not alive",
                        40,
                        NO_ROOM + String.format("send(%d, %d, %d)", row[0], row[1], to) + " throws Index");
            }
            script.run(
                    "12: the other one is not alive",
                    40,
                    NO_ROOM + "send(1, 3, " + to + ") = false; count(4) = 0");
        }
    }

    private static void indexBeforeUnsupported(Script script) {
        for (int[] row : NOBODY_OR_NO_REGISTER) {
            script.run(
                    "10: no process or register, before too few words are free",
                    40,
                    "5 x spawn(); exit(2) = 8; spawn() = 6; count(1) = 0",
                    String.format("blob(%d, %d, 1) throws Index", row[0], row[1]),
                    "blob(1, 0, 1) throws Unsupported");
            String great = "2 x spawn(); 12 x pair(1, 0, 0, 0); exit(2) = 8; ";
            script.run(
                    "24: no process or register, before too many are looked at",
                    600,
                    great + String.format("equal(%d, %d, 1, 0) throws Index", row[0], row[1]),
                    String.format("equal(1, 0, %d, %d) throws Index", row[0], row[1]),
                    "equal(1, 0, 1, 0) throws Unsupported");
        }
        script.run(
                "24: no two processes, no two registers",
                40,
                "spawn() = 1; equal(2, 0, 2, 0) throws Index; equal(1, 4, 1, 4) throws Index",
                "equal(2, 4, 0, -1) throws Index");
    }

    private static void argumentBeforeState(Script script) {
        String[] calls = {
            "tuple(%d, 0, -1)", "tuple(%d, 0, 5)", "tuple(%d, 0, 2147483647)", "tuple(%d, 0, -2147483648)",
            "blob(%d, 0, 0)", "blob(%d, 0, 101)", "blob(%d, 0, -2147483648)", "blob(%d, 0, 2147483647)"
        };
        for (String call : calls) {
            for (int process : new int[] {1, 3}) {
                script.run(
                        "the argument, before room is looked for",
                        40,
                        NO_ROOM + String.format(call, process) + " throws Argument; count(4) = 0; of(3, 1) = 8",
                        "of(1, 1) = 8");
            }
        }
    }

    private static void argumentBeforeUnsupported(Script script) {
        script.run(
                "10: the size, before too few words are free",
                40,
                "5 x spawn(); count(1) = 0; blob(1, 0, 0) throws Argument; blob(1, 0, 101) throws Argument",
                "blob(1, 0, 100) throws Unsupported; blob(1, 0, 1) throws Unsupported");
    }

    private static void stateBeforeUnsupported(Script script) {
        script.run(
                "10: no room for its handle, before too few words are free",
                40,
                NO_ROOM + "blob(1, 0, 1) throws State; count(4) = 1; blob(1, 0, 100) throws State; count(4) = 2",
                "of(1, 0) = 8");
        script.run(
                "10: no room for its handle, before too few words are free: 7 are",
                47,
                "5 x spawn(); 4 x pair(1, 0, 0, 0); count(1) = 7; blob(1, 1, 8) throws State",
                "blob(1, 1, 7) throws State; count(4) = 2; count(1) = 7");
        script.run(
                "10: room for its handle, and too few words are free",
                40,
                NO_ROOM + "blob(3, 0, 1) throws Unsupported; count(4) = 1; of(3, 1) = 0; of(3, 0) = 8; exit(6) = 8",
                "blob(1, 0, 1) throws Unsupported; of(1, 0) = 16; count(1) = 0; count(4) = 2");
    }

    private static void stateBeforeThirtyBlobs(Script script) {
        String thirty = "spawn() = 1; " + "blob(1, 0, 1); pair(1, 1, 0, 1); ".repeat(30)
                + "count(2) = 30; of(1, 1) = 120; of(1, 0) = 120; ";
        script.run(
                "10: no room for its handle, before there are 30 blobs: 7 words are free",
                157,
                thirty + "count(1) = 7; blob(1, 2, 1) throws State; of(1, 0) = 120; count(1) = 7",
                "blob(1, 2, 101) throws Argument; blob(1, 4, 1) throws Index; blob(2, 0, 1) throws Index");
        script.run(
                "10: there are 30 blobs, and room for its handle: 8 words are free",
                158,
                thirty + "count(1) = 8; blob(1, 2, 1) throws Unsupported; of(1, 0) = 128; count(1) = 0",
                "blob(1, 2, 1) throws Unsupported; blob(1, 2, 0) throws Argument; blob(1, -1, 1) throws Index",
                "of(1, 0) = 128; of(1, 1) = 120; count(2) = 30");
        script.run(
                "10: there are 30 blobs, and words enough",
                600,
                thirty + "count(1) = 450; blob(1, 2, 100) throws Unsupported; of(1, 0) = 128; count(1) = 442",
                "blob(1, 2, 101) throws Argument; count(1) = 442");
    }

    private static void nothingButACollection(Script script) {
        script.run(
                "where there is no room: registers, messages and parts stay, where the collection puts them",
                40,
                "5 x spawn(); tuple(1, 0, 0); pair(1, 1, 0, 0); send(1, 1, 1) = true; tuple(1, 2, 0)",
                "tuple(1, 2, 0); nil(1, 0); pair(1, 3, 2, 1); of(1, 1) = 7; address(1, 3) = 5",
                "tuple(1, 0, 3) throws State; of(1, 1) = 6; of(1, 2) = 1; address(1, 1) = 0; address(1, 2) = 2",
                "address(1, 3) = 3; kind(1, 0) = 0; receive(1, 0) = 0; address(1, 0) = 0; part(1, 0, 0, 1)",
                "address(1, 0) = 5");
        script.run(
                "where there is no room: handles that go are counted no more",
                47,
                "5 x spawn(); blob(1, 0, 2); blob(1, 1, 3); nil(1, 0); pair(1, 0, 1, 1); pair(1, 0, 0, 0)",
                "count(1) = 2; count(2) = 2; tuple(1, 3, 4) throws State; count(1) = 4; count(2) = 1; of(1, 1) = 6",
                "handles(1, 1) = 1; value(1, 1) = 3; kind(1, 3) = 0");
        script.run(
                "where there is no room for a message: handles of it are not counted",
                40,
                "4 x spawn(); blob(1, 0, 1); 4 x pair(2, 0, 0, 0); count(1) = 7; send(1, 0, 2) throws State",
                "handles(1, 0) = 1; of(2, 1) = 8; of(2, 2) = 0; broadcast(1, 0) = 2; handles(1, 0) = 3",
                "of(2, 2) = 0; count(4) = 2");
        script.run(
                "nothing is changed where a process was refused",
                40,
                "5 x spawn(); pair(1, 0, 0, 0); nil(1, 0); spawn() throws State; count(0) = 5; count(1) = 0",
                "count(3) = 5; count(4) = 0; of(1, 1) = 2");
    }
}

/** Promises 4 to 7 and 19 to 21: what registers can be made to be, and what they tell. */
public final class RegistersTest {
    public static void main(String[] args) {
        Script script = new Script();
        plainTerms(script);
        names(script);
        moves(script);
        answersOfEachKind(script);
        wrongProcessesAndRegisters(script);
        script.end();
    }

    private static void plainTerms(Script script) {
        script.run(
                "4: nil",
                100,
                "spawn() = 1; integer(1, 2, 5); pair(1, 3, 2, 2); nil(1, 2); kind(1, 2) = 0; value(1, 2) = 0",
                "nil(1, 3); kind(1, 3) = 0; address(1, 3) = -1; of(1, 1) = 2");
        script.run(
                "5: integer",
                100,
                "spawn() = 1; integer(1, 0, 5); kind(1, 0) = 1; value(1, 0) = 5; integer(1, 0, 0); value(1, 0) = 0",
                "kind(1, 0) = 1; integer(1, 3, -1); value(1, 3) = -1; of(1, 1) = 0; integer(1, 1, 134217727)",
                "value(1, 1) = 134217727; kind(1, 1) = 1; integer(1, 2, -134217728); value(1, 2) = -134217728",
                "kind(1, 2) = 1");
        script.run(
                "5: out of range",
                100,
                "spawn() = 1; integer(1, 0, 3); integer(1, 0, 134217728) throws Argument",
                "integer(1, 0, -134217729) throws Argument; integer(1, 0, 2147483647) throws Argument",
                "integer(1, 0, -2147483648) throws Argument; value(1, 0) = 3",
                "integer(1, 4, 134217728) throws Index");
    }

    private static void names(Script script) {
        script.run(
                "6: name",
                100,
                "3 x spawn(); name(1, 0, 1); kind(1, 0) = 2; value(1, 0) = 1; name(1, 0, 3); value(1, 0) = 3",
                "exit(3) = 8; value(1, 0) = 3; name(2, 3, 3); kind(2, 3) = 2; value(2, 3) = 3; address(2, 3) = -1");
        script.run(
                "6: there never was one",
                100,
                "2 x spawn(); name(1, 0, 0) throws Argument; name(1, 0, -1) throws Argument",
                "name(1, 0, 3) throws Argument; name(1, 0, 2147483647) throws Argument; kind(1, 0) = 0",
                "name(3, 0, 0) throws Index; name(1, 4, 0) throws Index");
    }

    private static void moves(Script script) {
        script.run(
                "7: move",
                100,
                "spawn() = 1; integer(1, 0, 9); move(1, 3, 0); value(1, 3) = 9; value(1, 0) = 9; pair(1, 1, 0, 0)",
                "pair(1, 1, 1, 1); move(1, 2, 1); address(1, 2) = 2; kind(1, 2) = 3; of(1, 1) = 4; move(1, 2, 2)",
                "address(1, 2) = 2; nil(1, 1); address(1, 2) = 2; words(1, 2) = 4");
    }

    private static void answersOfEachKind(Script script) {
        script.run(
                "19, 20, 21: kind, value, address",
                200,
                "2 x spawn(); kind(1, 0) = 0; value(1, 0) = 0; address(1, 0) = -1; integer(1, 0, -8)",
                "kind(1, 0) = 1; value(1, 0) = -8; address(1, 0) = -1; name(1, 1, 2); kind(1, 1) = 2",
                "value(1, 1) = 2; address(1, 1) = -1; pair(1, 2, 0, 1); kind(1, 2) = 3; value(1, 2) = 2",
                "address(1, 2) = 0; tuple(1, 3, 3); kind(1, 3) = 4; value(1, 3) = 3; address(1, 3) = 2",
                "tuple(1, 3, 0); kind(1, 3) = 4; value(1, 3) = 0; address(1, 3) = 6; blob(1, 3, 77)",
                "kind(1, 3) = 5; value(1, 3) = 77; address(1, 3) = 3; of(1, 1) = 5; count(4) = 1");
        script.run(
                "20: how many parts a tuple has",
                200,
                "spawn() = 1; tuple(1, 0, 0); value(1, 0) = 0; tuple(1, 0, 1); value(1, 0) = 1; tuple(1, 0, 2)",
                "value(1, 0) = 2; tuple(1, 0, 3); value(1, 0) = 3; tuple(1, 0, 4); value(1, 0) = 4");
    }

    private static void wrongProcessesAndRegisters(Script script) {
        String[] calls = {
            "nil(%d, %d)", "integer(%d, %d, 1)", "name(%d, %d, 1)", "move(%d, %d, 0)", "pair(%d, %d, 0, 0)",
            "tuple(%d, %d, 1)", "blob(%d, %d, 1)", "part(%d, %d, 0, 0)", "send(%d, %d, 1)", "broadcast(%d, %d)",
            "receive(%d, %d)", "kind(%d, %d)", "value(%d, %d)", "address(%d, %d)", "words(%d, %d)", "handles(%d, %d)",
            "equal(%d, %d, 1, 0)", "tuple(%d, %d, 9)", "blob(%d, %d, 0)", "part(%d, %d, 1, 7)", "send(%d, %d, 9)"
        };
        int[][] wrong = {{0, 0}, {-1, 0}, {2, 0}, {3, 0}, {2147483647, 0}, {1, -1}, {1, 4}, {1, 2147483647}, {2, 4}};
        for (String call : calls) {
            for (int[] row : wrong) {
                script.run(
                        "no such process or register",
                        100,
                        "2 x spawn(); pair(1, 0, 0, 0); send(1, 0, 1) = true; exit(2) = 8",
                        String.format(call, row[0], row[1]) + " throws Index");
            }
        }
        for (int r : new int[] {-1, 4, -2147483648}) {
            script.run(
                    "no such second register",
                    100,
                    "spawn() = 1; pair(1, 0, 0, 0)",
                    String.format("move(1, 0, %d) throws Index", r),
                    String.format("pair(1, 0, %d, 0) throws Index", r),
                    String.format("pair(1, 0, 0, %d) throws Index", r),
                    String.format("part(1, 0, %d, 0) throws Index", r),
                    String.format("equal(1, 0, 1, %d) throws Index", r),
                    "equal(1, 0, 2, 0) throws Index; words(1, 0) = 2");
        }
    }
}

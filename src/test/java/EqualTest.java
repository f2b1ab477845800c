/** Promise 24: equal. */
public final class EqualTest {
    /** In register 0 of process 1, a term of which equal looks at 1983 pairs if it is compared with its like. */
    static final String LOOKED_AT_1983 =
            "5 x pair(1, 0, 0, 0); move(1, 1, 0);" + "pair(1, 0, 0, 0); pair(1, 1, 1, 0);".repeat(4) + "move(1, 0, 1);";

    public static void main(String[] args) {
        Script script = new Script();
        plainTerms(script);
        structures(script);
        atTheLimit(script);
        differencesAtTheLimit(script);
        deepTerms(script);
        script.end();
    }

    private static void plainTerms(Script script) {
        script.run(
                "24: plain terms",
                100,
                "2 x spawn(); equal(1, 0, 2, 3) = true; equal(1, 0, 1, 0) = true; integer(1, 0, 0)",
                "equal(1, 0, 2, 0) = false; integer(2, 0, 0); equal(1, 0, 2, 0) = true; integer(2, 0, 1)",
                "equal(1, 0, 2, 0) = false; name(1, 0, 1); equal(1, 0, 2, 0) = false; equal(2, 0, 1, 0) = false",
                "name(2, 0, 1); equal(1, 0, 2, 0) = true; name(2, 0, 2); equal(1, 0, 2, 0) = false");
        script.run(
                "24: handles",
                100,
                "2 x spawn(); blob(1, 0, 4); blob(2, 0, 4); equal(1, 0, 2, 0) = false; send(1, 0, 2) = true",
                "receive(2, 1) = 0; equal(1, 0, 2, 1) = true; equal(2, 0, 2, 1) = false; send(2, 0, 2) = true",
                "receive(2, 2) = 0; equal(2, 2, 2, 0) = true; send(1, 0, 2) = true; receive(2, 2) = 0",
                "equal(2, 1, 2, 2) = true");
    }

    private static void structures(Script script) {
        script.run(
                "24: pairs and tuples",
                200,
                "2 x spawn(); pair(1, 0, 1, 1); pair(1, 2, 1, 1); equal(1, 0, 1, 2) = true; tuple(1, 3, 1)",
                "tuple(2, 0, 2); equal(1, 3, 2, 0) = false; pair(2, 1, 2, 2); equal(2, 0, 2, 1) = false",
                "equal(1, 0, 2, 1) = true; nil(2, 0); tuple(2, 0, 2); tuple(2, 3, 0); equal(2, 3, 2, 2) = false",
                "tuple(1, 3, 0); equal(2, 3, 1, 3) = true");
        script.run(
                "24: parts that differ",
                200,
                "spawn() = 1; integer(1, 0, 1); integer(1, 1, 2); pair(1, 2, 0, 1); pair(1, 3, 1, 0)",
                "equal(1, 2, 1, 3) = false; pair(1, 3, 0, 0); equal(1, 2, 1, 3) = false; pair(1, 3, 1, 1)",
                "equal(1, 2, 1, 3) = false; pair(1, 3, 0, 1); equal(1, 2, 1, 3) = true; pair(1, 2, 2, 2)",
                "pair(1, 3, 3, 3); equal(1, 2, 1, 3) = true; tuple(1, 2, 4); integer(1, 3, 9); tuple(1, 3, 4)",
                "equal(1, 2, 1, 3) = false");
        script.run(
                "24: what is shared equals what is not",
                200,
                "spawn() = 1; pair(1, 0, 3, 3); pair(1, 1, 3, 3); pair(1, 2, 0, 1); pair(1, 3, 0, 0)",
                "equal(1, 2, 1, 3) = true; words(1, 2) = 6; words(1, 3) = 4; of(1, 1) = 8; count(4) = 0");
    }

    private static void atTheLimit(Script script) {
        script.run(
                "24: 2000 pairs of terms, and one more",
                600,
                "2 x spawn(); " + LOOKED_AT_1983 + "17 x tuple(1, 0, 1); equal(1, 0, 1, 0) = true",
                "send(1, 0, 2) = true",
                "receive(2, 0) = 0; equal(2, 0, 1, 0) = true; tuple(1, 0, 1); equal(1, 0, 2, 0) = false",
                "equal(1, 0, 1, 0) throws Unsupported; send(1, 0, 2) = true; receive(2, 0) = 0",
                "equal(1, 0, 2, 0) throws Unsupported; equal(1, 0, 9, 0) throws Index");
    }

    private static void differencesAtTheLimit(Script script) {
        String twoThatDifferAtTheEnd = "integer(1, 1, 5); pair(1, 2, 0, 1); integer(1, 1, 6); pair(1, 3, 0, 1);";
        script.run(
                "24: a difference in the 2000th pair",
                600,
                "spawn() = 1; " + LOOKED_AT_1983 + "15 x tuple(1, 0, 1); " + twoThatDifferAtTheEnd,
                "equal(1, 2, 1, 3) = false");
        script.run(
                "24: a difference in the 2001st pair",
                600,
                "spawn() = 1; " + LOOKED_AT_1983 + "16 x tuple(1, 0, 1); " + twoThatDifferAtTheEnd,
                "equal(1, 2, 1, 3) throws Unsupported");
        script.run(
                "24: a difference in the first part ends it",
                600,
                "spawn() = 1; 14 x pair(1, 0, 0, 0); integer(1, 1, 5); pair(1, 2, 1, 0); integer(1, 1, 6)",
                "pair(1, 3, 1, 0); equal(1, 2, 1, 3) = false; equal(1, 2, 1, 2) throws Unsupported");
        script.run(
                "24: the first part comes with all that it leads to",
                600,
                "spawn() = 1; 14 x pair(1, 0, 0, 0); integer(1, 1, 5); pair(1, 2, 0, 1); integer(1, 1, 6)",
                "pair(1, 3, 0, 1); equal(1, 2, 1, 3) throws Unsupported");
    }

    private static void deepTerms(Script script) {
        script.run(
                "24: a long list in the last part",
                600,
                "spawn() = 1; integer(1, 1, 3); 290 x pair(1, 0, 1, 0); words(1, 0) = 580; equal(1, 0, 1, 0) = true");
        script.run(
                "24: a long list in the first part",
                600,
                "spawn() = 1; integer(1, 1, 3); 290 x pair(1, 0, 0, 1); words(1, 0) = 580; equal(1, 0, 1, 0) = true");
        script.run(
                "24: many parts that wait",
                600,
                "spawn() = 1; 115 x tuple(1, 0, 4); words(1, 0) = 575; equal(1, 0, 1, 0) = true");
    }
}

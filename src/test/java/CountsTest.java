/** Promises 17, 18, 22 and 23: count, of, words, handles. */
public final class CountsTest {
    public static void main(String[] args) {
        Script script = new Script();
        counts(script);
        countsOfProcesses(script);
        words(script);
        handles(script);
        script.end();
    }

    private static void counts(Script script) {
        script.run(
                "17: count",
                100,
                "3 x spawn(); exit(2) = 8; blob(1, 0, 20); blob(3, 0, 1); count(0) = 2; count(1) = 63",
                "count(2) = 2; count(3) = 3; count(4) = 0; collect(1) = 0; trim(3) = 8; count(4) = 2; exit(3) = 9",
                "count(3) = 3; count(0) = 1; count(2) = 1; count(4) = 2; 3 x pair(1, 1, 1, 1); count(4) = 2",
                "pair(1, 1, 1, 1); count(4) = 3; of(1, 0) = 16; count(1) = 64");
        script.run(
                "17: any other number",
                100,
                "count(5) throws Argument; count(-1) throws Argument; count(2147483647) throws Argument",
                "count(-2147483648) throws Argument");
    }

    private static void countsOfProcesses(Script script) {
        script.run(
                "18: of",
                100,
                "2 x spawn(); of(1, 0) = 8; of(1, 1) = 0; of(1, 2) = 0; 5 x pair(1, 0, 0, 0); of(1, 0) = 16",
                "of(1, 1) = 10; 2 x send(1, 1, 2); of(2, 2) = 2; of(1, 2) = 0; of(2, 0) = 8; of(2, 1) = 0",
                "nil(1, 0); of(1, 1) = 10");
        script.run(
                "18: none alive, or any other number",
                100,
                "of(1, 9) throws Index; spawn() = 1; of(1, 3) throws Argument; of(1, -1) throws Argument",
                "of(2, 0) throws Index; of(0, 0) throws Index; exit(1) = 8; of(1, 0) throws Index",
                "of(1, 3) throws Index");
    }

    private static void words(Script script) {
        script.run(
                "22: words",
                200,
                "spawn() = 1; words(1, 0) = 0; integer(1, 0, 3); words(1, 0) = 0; name(1, 0, 1); words(1, 0) = 0",
                "pair(1, 0, 0, 0); words(1, 0) = 2; tuple(1, 1, 0); words(1, 1) = 1; blob(1, 2, 60)",
                "words(1, 2) = 2; tuple(1, 3, 3); words(1, 3) = 9; pair(1, 0, 3, 3); words(1, 0) = 11",
                "pair(1, 1, 0, 3); words(1, 1) = 13; words(1, 3) = 9; words(1, 2) = 2; count(4) = 1; of(1, 0) = 16",
                "address(1, 1) = 11; address(1, 3) = 5; address(1, 0) = 9; handles(1, 2) = 1");
        script.run(
                "22: each structure once",
                200,
                "spawn() = 1; 20 x pair(1, 0, 0, 0); words(1, 0) = 40; 20 x tuple(1, 1, 2); words(1, 1) = 100");
    }

    private static void handles(Script script) {
        script.run(
                "23: handles",
                200,
                "2 x spawn(); handles(1, 0) = 0; integer(1, 0, 3); handles(1, 0) = 0; blob(1, 1, 9)",
                "handles(1, 1) = 1; move(1, 2, 1); handles(1, 2) = 1; pair(1, 0, 1, 1); handles(1, 0) = 0",
                "handles(1, 1) = 1; blob(1, 3, 9); handles(1, 3) = 1; send(1, 0, 2) = true; handles(1, 1) = 2",
                "handles(1, 3) = 1; send(1, 1, 2) = true; handles(1, 2) = 3; send(1, 1, 1) = true",
                "handles(1, 1) = 3; receive(2, 0) = 1; handles(1, 1) = 3; nil(2, 0); handles(1, 1) = 3",
                "collect(2) = 4; handles(1, 1) = 2; exit(2) = 8; handles(1, 1) = 1");
    }
}

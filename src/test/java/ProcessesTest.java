/** Promises 1 to 3: a new object, spawn, exit. */
public final class ProcessesTest {
    public static void main(String[] args) {
        Script script = new Script();
        newObjects(script);
        spawns(script);
        spawnsAtTheLimits(script);
        exits(script);
        exitsWithBlobs(script);
        script.end();
    }

    private static void newObjects(Script script) {
        int[][] wordsAndFree = {
            {100, 100}, {40, 40}, {41, 41}, {599, 599}, {600, 600}, {39, 40}, {0, 40}, {-1, 40}, {601, 600},
            {Integer.MIN_VALUE, 40}, {Integer.MAX_VALUE, 600}
        };
        for (int[] row : wordsAndFree) {
            script.run("1: a pool", row[0], "count(1) = " + row[1]);
        }
        script.run(
                "1: nothing else",
                100,
                "count(0) = 0; count(2) = 0; count(3) = 0; count(4) = 0; of(1, 0) throws Index",
                "kind(0, 0) throws Index");
        Caller used = new Caller(new CopyHeaps(100));
        used.call("spawn");
        used.call("blob", 1, 0, 50);
        Caller fresh = new Caller(new CopyHeaps(100));
        script.isTrue("1: nothing of another object", fresh.state().equals("0 100 0 0 0 "));
        fresh.call("spawn");
        fresh.call("exit", 1);
        script.isTrue("1: nothing in another object", used.number("handles", 1, 0) == 1);
    }

    private static void spawns(Script script) {
        script.run(
                "2: a new process",
                100,
                "spawn() = 1; count(0) = 1; count(1) = 92; count(3) = 1; of(1, 0) = 8; of(1, 1) = 0; of(1, 2) = 0",
                "kind(1, 0) = 0; kind(1, 1) = 0; kind(1, 2) = 0; kind(1, 3) = 0; spawn() = 2; count(0) = 2",
                "count(1) = 84; count(3) = 2");
        script.run(
                "2: nothing of an ended one comes again",
                100,
                "spawn() = 1; integer(1, 0, 7); 5 x pair(1, 1, 0, 1); send(1, 1, 1) = true; of(1, 0) = 16",
                "exit(1) = 16; spawn() = 2; of(2, 0) = 8; of(2, 1) = 0; of(2, 2) = 0; kind(2, 0) = 0",
                "kind(2, 1) = 0; count(1) = 92; receive(2, 0) throws State; kind(1, 0) throws Index");
    }

    private static void spawnsAtTheLimits(Script script) {
        script.run(
                "2: at most 8 alive",
                600,
                "8 x spawn(); count(0) = 8; count(3) = 8; spawn() throws State; count(1) = 536; exit(3) = 8",
                "spawn() = 9; spawn() throws State; count(3) = 9; of(3, 0) throws Index; of(9, 0) = 8");
        script.run(
                "2: fewer than 8 free",
                47,
                "5 x spawn(); count(1) = 7; spawn() throws State; count(0) = 5; count(3) = 5");
        script.run("2: just 8 free", 48, "6 x spawn(); count(1) = 0; spawn() throws State");
    }

    private static void exits(Script script) {
        script.run(
                "3: the heap goes",
                100,
                "3 x spawn(); 9 x pair(2, 0, 0, 0); of(2, 0) = 24; count(1) = 60; exit(2) = 24; count(0) = 2",
                "count(1) = 84; count(4) = 2; count(3) = 3; exit(2) throws Index; nil(2, 0) throws Index",
                "kind(1, 0) = 0; kind(3, 0) = 0; exit(1) = 8; exit(3) = 8; count(0) = 0; count(1) = 100");
        script.run(
                "3: none of this number",
                100,
                "exit(1) throws Index; spawn() = 1; exit(0) throws Index; exit(-1) throws Index",
                "exit(2) throws Index; exit(-2147483648) throws Index; exit(1) = 8");
    }

    private static void exitsWithBlobs(Script script) {
        script.run(
                "3: the last handle of a blob",
                100,
                "2 x spawn(); blob(1, 0, 30); blob(1, 1, 5); send(1, 0, 2) = true; count(1) = 49; exit(1) = 13",
                "count(2) = 1; count(1) = 62; receive(2, 3) = 0; handles(2, 3) = 1; value(2, 3) = 30; exit(2) = 38",
                "count(2) = 0; count(1) = 100");
        script.run(
                "3: handles that nothing leads to, and those of messages",
                100,
                "2 x spawn(); blob(1, 0, 10); nil(1, 0); blob(2, 0, 20); send(2, 0, 1) = true; nil(2, 0)",
                "collect(2) = 2; count(2) = 2; exit(1) = 38; count(2) = 0; count(1) = 92");
    }
}

/**
 * The sentences of promises 12 to 24 that name a boundary case, each with a run of its own. Room for messages, copies
 * and the order of what a collection leaves are in BoundariesOfHeapsTest.
 */
public final class Boundaries12To24Test {
    public static void main(String[] args) {
        Script script = new Script();
        sendsToNobody(script);
        sendsToItself(script);
        sends(script);
        broadcasts(script);
        broadcastsWithoutRoom(script);
        receives(script);
        collects(script);
        trims(script);
        counts(script);
        countsOfProcesses(script);
        kindsValuesAndAddresses(script);
        words(script);
        handles(script);
        equals(script);
        equalPartCounts(script);
        looksAt2000(script);
        looksInOrder(script);
        script.end();
    }

    private static void sendsToNobody(Script script) {
        for (int to : new int[] {0, -1, 2, 4, Integer.MAX_VALUE, Integer.MIN_VALUE}) {
            script.run(
                    "12: false if that is not alive: " + to,
                    40,
                    "3 x spawn(); exit(2) = 8; pair(1, 0, 0, 0); nil(1, 1); send(1, 0, " + to + ") = false",
                    "count(4) = 0; of(1, 2) = 0; of(3, 2) = 0; count(1) = 24");
        }
        script.run(
                "12: false if that is not alive: the first and the latest are",
                40,
                "3 x spawn(); exit(2) = 8; send(3, 0, 1) = true; send(1, 0, 3) = true; of(1, 2) = 1; of(3, 2) = 1");
        script.run(
                "12: false if that is not alive: none but the sender",
                40,
                "spawn() = 1; send(1, 0, 2) = false; send(1, 0, 0) = false; send(1, 0, 1) = true; of(1, 2) = 1");
    }

    private static void sendsToItself(Script script) {
        script.run(
                "12: if it is the process itself, what it is, without a copy: where no room is",
                40,
                "5 x spawn(); 4 x pair(1, 0, 0, 0); send(1, 0, 1) = true; of(1, 1) = 8; of(1, 2) = 1; count(4) = 0",
                "receive(1, 3) = 0; address(1, 3) = 6; address(1, 0) = 6; of(1, 1) = 8");
        script.run(
                "12: if it is the process itself, what it is, without a copy: a handle",
                40,
                "spawn() = 1; blob(1, 0, 5); 2 x send(1, 0, 1) = true; handles(1, 0) = 1; of(1, 1) = 2; nil(1, 0)",
                "collect(1) = 0; count(2) = 1");
    }

    private static void sends(Script script) {
        script.run(
                "12: there is no room in the other one's heap",
                40,
                "5 x spawn(); pair(1, 0, 0, 0); 4 x send(1, 0, 2) = true; of(2, 1) = 8; count(4) = 0",
                "send(1, 0, 2) throws State; count(4) = 1; of(2, 2) = 4; of(2, 1) = 8; of(1, 1) = 2",
                "receive(2, 0) = 3; nil(2, 0); send(1, 0, 2) = true; of(2, 2) = 4");
        script.run(
                "12: there is no room in the other one's heap: none is needed in its own",
                40,
                "5 x spawn(); 4 x pair(1, 0, 0, 0); pair(1, 0, 0, 0) throws State; count(4) = 1",
                "send(1, 0, 2) = true; of(2, 1) = 8; count(4) = 1");
        script.run(
                "12: the last message of the other one",
                40,
                "2 x spawn(); integer(2, 0, 1); send(2, 0, 2); integer(1, 0, 2); send(1, 0, 2) = true",
                "integer(2, 0, 3); send(2, 0, 2); receive(2, 0) = 2; value(2, 0) = 1; receive(2, 0) = 1",
                "value(2, 0) = 2; receive(2, 0) = 0; value(2, 0) = 3");
        script.run(
                "12: a handle is counted for each copy, and once in each",
                100,
                "2 x spawn(); blob(1, 0, 9); pair(1, 1, 0, 0); send(1, 1, 2) = true; handles(1, 0) = 2",
                "send(1, 1, 2) = true; handles(1, 0) = 3; exit(2) = 8; handles(1, 0) = 1; count(2) = 1");
        script.run(
                "12: a handle that was not sent is not counted",
                40,
                "5 x spawn(); exit(5) = 8; blob(1, 0, 8); 3 x pair(1, 0, 0, 0); pair(2, 0, 0, 0)",
                "send(1, 0, 2) throws State; of(1, 1) = 8; 3 x part(1, 0, 0, 0); handles(1, 0) = 1",
                "send(1, 0, 2) = true; handles(1, 0) = 2");
    }

    private static void broadcasts(Script script) {
        script.run(
                "13: to all other processes: there are none",
                40,
                "spawn() = 1; pair(1, 0, 0, 0); broadcast(1, 0) = 0; of(1, 2) = 0");
        script.run(
                "13: to all other processes: there are 7",
                600,
                "8 x spawn(); pair(4, 0, 0, 0); broadcast(4, 0) = 7; of(1, 2) = 1; of(3, 2) = 1; of(4, 2) = 0",
                "of(5, 2) = 1; of(8, 2) = 1; of(8, 1) = 2; of(4, 1) = 2; broadcast(1, 0) = 7; of(1, 2) = 1",
                "of(4, 2) = 1; broadcast(8, 0) = 7; of(8, 2) = 2");
        script.run(
                "13: to all other processes alive",
                40,
                "4 x spawn(); exit(1) = 8; exit(3) = 8; broadcast(2, 0) = 1; of(4, 2) = 1; of(2, 2) = 0",
                "exit(4) = 8; broadcast(2, 0) = 0");
        script.run(
                "13: how many got it: a plain term goes to all, where no room is",
                40,
                "5 x spawn(); 4 x pair(2, 0, 0, 0); 4 x pair(5, 0, 0, 0); integer(1, 0, 3); broadcast(1, 0) = 4",
                "count(4) = 0; of(5, 2) = 1");
    }

    private static void broadcastsWithoutRoom(Script script) {
        script.run(
                "13: from the least number on: the first one gets the last words",
                40,
                "4 x spawn(); count(1) = 8; pair(2, 0, 0, 0); 4 x pair(1, 0, 0, 0); 4 x pair(3, 0, 0, 0)",
                "4 x pair(4, 0, 0, 0); broadcast(2, 0) = 1; of(1, 0) = 16; of(1, 2) = 1; of(3, 0) = 8",
                "of(3, 2) = 0; of(4, 2) = 0; count(1) = 0; count(4) = 3");
        script.run(
                "13: from the least number on: a late one that came in an ended one's place is the last",
                40,
                "4 x spawn(); exit(1) = 8; spawn() = 5; 4 x pair(3, 0, 0, 0); 4 x pair(5, 0, 0, 0)",
                "pair(4, 0, 0, 0); 4 x pair(2, 0, 0, 0); count(1) = 8; broadcast(4, 0) = 1; of(2, 2) = 1",
                "of(3, 2) = 0; of(5, 2) = 0");
        script.run(
                "13: those for whom there is no room do not, and the next one is sent to",
                40,
                "5 x spawn(); pair(1, 0, 0, 0); 4 x pair(2, 0, 0, 0); 4 x pair(4, 0, 0, 0); broadcast(1, 0) = 2",
                "of(2, 2) = 0; of(3, 2) = 1; of(4, 2) = 0; of(5, 2) = 1; count(4) = 2; of(2, 1) = 8; of(4, 1) = 8");
        script.run(
                "13: those for whom there is no room are collected, and no more",
                40,
                "5 x spawn(); 4 x pair(1, 0, 0, 0); pair(2, 0, 0, 0); tuple(2, 1, 0); nil(2, 0)",
                "4 x pair(3, 0, 0, 0); broadcast(1, 0) = 2; count(4) = 2; of(2, 1) = 1; address(2, 1) = 0",
                "of(2, 0) = 8; of(2, 2) = 0; of(3, 1) = 8; of(4, 1) = 8; of(5, 1) = 8");
        script.run(
                "13: from the least number on: words that a collection gives back are there for the next one",
                40,
                "3 x spawn(); pair(1, 0, 0, 0); blob(2, 0, 16); nil(2, 0); 3 x pair(2, 1, 1, 1)",
                "4 x pair(3, 0, 0, 0); count(1) = 0; broadcast(1, 0) = 2; count(2) = 0; of(2, 0) = 8",
                "of(3, 0) = 16; count(1) = 8");
        script.run(
                "13: from the least number on: and not for the one before",
                40,
                "3 x spawn(); pair(1, 0, 0, 0); blob(3, 0, 16); nil(3, 0); 3 x pair(3, 1, 1, 1)",
                "4 x pair(2, 0, 0, 0); count(1) = 0; broadcast(1, 0) = 1; count(2) = 0; of(2, 0) = 8; of(2, 2) = 0",
                "of(3, 2) = 1; count(1) = 16");
        script.run(
                "13: how many got it: for none there is room",
                40,
                "2 x spawn(); 8 x pair(1, 0, 0, 0); of(1, 0) = 16; 4 x pair(2, 0, 0, 0); blob(2, 1, 1)",
                "count(1) = 7; broadcast(1, 0) = 0; of(2, 2) = 0; of(2, 0) = 16; of(2, 1) = 10; count(1) = 7");
    }

    private static void receives(Script script) {
        script.run(
                "14: there is none: from the beginning, and after the last one",
                40,
                "spawn() = 1; integer(1, 0, 5); receive(1, 0) throws State; value(1, 0) = 5; send(1, 0, 1) = true",
                "receive(1, 1) = 0; value(1, 1) = 5; nil(1, 1); receive(1, 1) throws State; kind(1, 1) = 0",
                "of(1, 2) = 0; count(4) = 0");
        script.run(
                "14: there is none: those of another one are its own",
                40,
                "2 x spawn(); send(1, 0, 2) = true; receive(1, 0) throws State; receive(2, 0) = 0",
                "receive(2, 0) throws State");
        script.run(
                "14: how many there are then",
                40,
                "spawn() = 1; 3 x send(1, 0, 1); of(1, 2) = 3; receive(1, 0) = 2; of(1, 2) = 2; receive(1, 0) = 1",
                "receive(1, 0) = 0; of(1, 2) = 0");
        script.run(
                "14: register r is the first message: it needs no room",
                40,
                "5 x spawn(); 4 x pair(1, 0, 0, 0); send(1, 0, 2) = true; of(2, 1) = 8; receive(2, 3) = 0",
                "address(2, 3) = 0; of(2, 1) = 8; count(4) = 0");
    }

    private static void collects(Script script) {
        script.run(
                "15: how many words of it were given back: none, where all stays or nothing lies there",
                40,
                "spawn() = 1; collect(1) = 0; tuple(1, 0, 0); collect(1) = 0; of(1, 1) = 1; count(4) = 2");
        script.run(
                "15: how many words of it were given back: 1",
                40,
                "spawn() = 1; tuple(1, 0, 0); nil(1, 0); collect(1) = 1; collect(1) = 0");
        script.run(
                "15: how many words of it were given back: some, and then all of the pool's",
                600,
                "spawn() = 1; 300 x pair(1, 0, 0, 0); 199 x part(1, 0, 0, 0); collect(1) = 398; of(1, 1) = 202",
                "nil(1, 0); collect(1) = 202; of(1, 1) = 0; of(1, 0) = 600");
        script.run(
                "15: how many words of it were given back: not those of blobs",
                200,
                "spawn() = 1; blob(1, 0, 100); nil(1, 0); collect(1) = 2; count(1) = 192; count(2) = 0");
    }

    private static void trims(Script script) {
        script.run(
                "16: 8 at least: nothing lies there",
                40,
                "spawn() = 1; trim(1) = 8; of(1, 0) = 8; count(1) = 32; count(4) = 1");
        script.run(
                "16: 8 at least: nothing is left",
                40,
                "spawn() = 1; 5 x pair(1, 0, 0, 0); nil(1, 0); trim(1) = 8; of(1, 1) = 0; of(1, 0) = 8",
                "count(1) = 32");
        int[][] usedAndCapacity = {{1, 8}, {7, 8}, {8, 8}, {9, 16}, {15, 16}, {16, 16}, {17, 24}, {24, 24}, {25, 32}};
        for (int[] row : usedAndCapacity) {
            String one = row[0] % 2 == 0 ? "" : "tuple(1, 0, 0); ";
            String twos = row[0] < 2 ? "" : row[0] / 2 + " x tuple(1, 0, 1); ";
            script.run(
                    "16: the least multiple of 8 into which all goes: " + row[0],
                    100,
                    "spawn() = 1; " + one + twos + "move(1, 3, 0); 20 x pair(1, 0, 0, 0); move(1, 0, 3)",
                    "trim(1) = " + row[1],
                    "of(1, 0) = " + row[1] + "; of(1, 1) = " + row[0] + "; count(1) = " + (100 - row[1]));
        }
        script.run(
                "16: the capacity that is so already stays",
                40,
                "5 x spawn(); 4 x pair(1, 0, 0, 0); trim(1) = 8; trim(1) = 8; of(1, 0) = 8; count(1) = 0",
                "count(4) = 2; words(1, 0) = 8");
        script.run(
                "16: the words are free then: for a process, and for a heap",
                40,
                "4 x spawn(); 5 x pair(1, 0, 0, 0); count(1) = 0; spawn() throws State; part(1, 0, 0, 0)",
                "spawn() throws State; trim(1) = 8; spawn() = 5; count(1) = 0; pair(1, 0, 0, 0) throws State");
    }

    private static void counts(Script script) {
        script.run(
                "17: any other number",
                40,
                "count(-1) throws Argument; count(0) = 0; count(1) = 40; count(2) = 0; count(3) = 0; count(4) = 0",
                "count(5) throws Argument; count(-2147483648) throws Argument; count(2147483647) throws Argument");
        script.run(
                "17: the number of the latest process, alive or not",
                40,
                "2 x spawn(); count(3) = 2; exit(2) = 8; count(3) = 2; count(0) = 1; exit(1) = 8; count(3) = 2",
                "count(0) = 0; spawn() = 3; count(3) = 3");
        script.run(
                "17: collections that there were: also of those that have ended, and for room that there was not",
                40,
                "5 x spawn(); collect(1) = 0; trim(2) = 8; exit(2) = 8; count(4) = 2; spawn() = 6",
                "4 x pair(1, 0, 0, 0); pair(1, 0, 0, 0) throws State; count(4) = 3; exit(1) = 8; count(4) = 3");
        script.run(
                "17: words free: none, and all",
                40,
                "count(1) = 40; spawn() = 1; blob(1, 0, 32); count(1) = 0; exit(1) = 40; count(1) = 40");
    }

    private static void countsOfProcesses(Script script) {
        script.run(
                "18: any other number",
                40,
                "spawn() = 1; of(1, -1) throws Argument; of(1, 0) = 8; of(1, 1) = 0; of(1, 2) = 0",
                "of(1, 3) throws Argument; of(1, -2147483648) throws Argument; of(1, 2147483647) throws Argument");
        script.run(
                "18: there is none alive",
                40,
                "of(1, 0) throws Index; 2 x spawn(); exit(1) = 8; of(0, 0) throws Index; of(1, 0) throws Index",
                "of(2, 0) = 8; of(3, 0) throws Index; of(-1, 0) throws Index");
        script.run(
                "18: the words that lie in its heap: with those that nothing leads to, without those of blobs",
                100,
                "spawn() = 1; blob(1, 0, 50); of(1, 1) = 2; nil(1, 0); of(1, 1) = 2; 3 x pair(1, 0, 0, 0)",
                "of(1, 1) = 8; of(1, 0) = 8");
    }

    private static void kindsValuesAndAddresses(Script script) {
        String[][] rows = {
            {"nil(1, 2)", "0", "0", "-1"},
            {"integer(1, 2, 0)", "1", "0", "-1"},
            {"integer(1, 2, -134217728)", "1", "-134217728", "-1"},
            {"integer(1, 2, 134217727)", "1", "134217727", "-1"},
            {"name(1, 2, 1)", "2", "1", "-1"},
            {"name(1, 2, 2)", "2", "2", "-1"},
            {"pair(1, 2, 0, 0)", "3", "2", "0"},
            {"tuple(1, 2, 0)", "4", "0", "0"},
            {"tuple(1, 2, 2)", "4", "2", "0"},
            {"tuple(1, 2, 4)", "4", "4", "0"},
            {"blob(1, 2, 1)", "5", "1", "0"},
            {"blob(1, 2, 100)", "5", "100", "0"},
        };
        for (String[] row : rows) {
            script.run(
                    "19: what register r is: " + row[0],
                    200,
                    "2 x spawn(); " + row[0] + "; kind(1, 2) = " + row[1]);
            script.run("20: value: " + row[0], 200, "2 x spawn(); " + row[0] + "; value(1, 2) = " + row[2]);
            script.run(
                    "21: -1 if it lies in no heap: " + row[0],
                    200,
                    "2 x spawn(); " + row[0] + "; address(1, 2) = " + row[3]);
        }
        script.run(
                "21: the address: of the last word of the pool",
                600,
                "spawn() = 1; 299 x pair(1, 0, 0, 0); tuple(1, 1, 0); tuple(1, 2, 0); address(1, 0) = 596",
                "address(1, 1) = 598; address(1, 2) = 599");
        script.run(
                "20: how many parts, a blob's size: the same in a copy",
                200,
                "2 x spawn(); blob(1, 0, 77); tuple(1, 0, 3); send(1, 0, 2) = true; exit(1) = 8; receive(2, 0) = 0",
                "value(2, 0) = 3; part(2, 1, 0, 0); value(2, 1) = 77; kind(2, 1) = 5; part(2, 1, 0, 2)",
                "kind(2, 1) = 0");
    }

    private static void words(Script script) {
        String[] plain = {"nil(1, 2)", "integer(1, 2, 9)", "name(1, 2, 1)"};
        for (String make : plain) {
            script.run(
                    "22: how many words: none for " + make,
                    40,
                    "spawn() = 1; pair(1, 0, 0, 0); " + make + "; words(1, 2) = 0");
        }
        for (int n = 0; n <= 4; n++) {
            script.run(
                    "22: itself included: a tuple of " + n,
                    40,
                    "spawn() = 1; tuple(1, 2, " + n + "); words(1, 2) = " + (n + 1));
        }
        script.run(
                "22: itself included: a handle, without its blob",
                200,
                "spawn() = 1; blob(1, 2, 100); words(1, 2) = 2");
        script.run(
                "22: each structure once",
                40,
                "spawn() = 1; tuple(1, 0, 0); tuple(1, 1, 0); pair(1, 2, 0, 0); words(1, 2) = 3; pair(1, 3, 0, 1)",
                "words(1, 3) = 4; pair(1, 3, 2, 2); words(1, 3) = 5; words(1, 2) = 3; words(1, 0) = 1");
        script.run(
                "22: all that it leads to: all words of the pool",
                600,
                "spawn() = 1; 300 x pair(1, 0, 0, 0); words(1, 0) = 600; part(1, 1, 0, 0); words(1, 1) = 598",
                "of(1, 1) = 600");
    }

    private static void handles(Script script) {
        String[] others = {
            "nil(1, 2)", "integer(1, 2, 9)", "name(1, 2, 1)", "pair(1, 2, 0, 0)", "tuple(1, 2, 1)", "tuple(1, 2, 0)"
        };
        for (String make : others) {
            script.run(
                    "23: 0 if it is none: " + make,
                    40,
                    "spawn() = 1; blob(1, 0, 5); " + make + "; handles(1, 2) = 0; handles(1, 0) = 1");
        }
        script.run(
                "23: the count of the blob: of this one, not of others of its size",
                40,
                "2 x spawn(); blob(1, 0, 5); blob(1, 1, 5); send(1, 0, 2) = true; handles(1, 0) = 2",
                "handles(1, 1) = 1; receive(2, 0) = 0; handles(2, 0) = 2; exit(1) = 13; handles(2, 0) = 1");
    }

    private static void equals(Script script) {
        String[] made = {
            "nil(%d, 0)", "integer(%d, 0, 0)", "integer(%d, 0, 1)", "integer(%d, 0, 134217727)",
            "integer(%d, 0, -134217728)", "name(%d, 0, 1)", "name(%d, 0, 2)", "pair(%d, 0, 0, 0)", "tuple(%d, 0, 0)",
            "tuple(%d, 0, 1)", "tuple(%d, 0, 2)", "tuple(%d, 0, 3)", "tuple(%d, 0, 4)"
        };
        for (int i = 0; i < made.length; i++) {
            for (int j = 0; j < made.length; j++) {
                script.run(
                        "24: equal: " + made[i] + " and " + made[j],
                        40,
                        "2 x spawn()",
                        String.format(made[i], 1),
                        String.format(made[j], 2),
                        "equal(1, 0, 2, 0) = " + (i == j));
            }
        }
        script.run(
                "24: handles of the same blob, not of another one of its size",
                40,
                "2 x spawn(); blob(1, 0, 3); blob(1, 1, 3); equal(1, 0, 1, 1) = false; equal(1, 0, 1, 0) = true",
                "send(1, 0, 2) = true; receive(2, 3) = 0; equal(1, 0, 2, 3) = true; equal(2, 3, 1, 1) = false",
                "equal(1, 0, 1, 3) = false");
        script.run(
                "24: a blob made after another one has gone is not that one",
                40,
                "2 x spawn(); blob(1, 0, 3); send(1, 0, 2) = true; exit(1) = 8; blob(2, 1, 3); receive(2, 0) = 0",
                "equal(2, 0, 2, 1) = false");
    }

    private static void equalPartCounts(Script script) {
        String great = "spawn() = 1; 12 x pair(1, 0, 0, 0); ";
        script.run(
                "24: of as many parts: if not, no part is looked at",
                600,
                great + "tuple(1, 2, 1); tuple(1, 3, 2); equal(1, 2, 1, 3) = false; equal(1, 3, 1, 2) = false",
                "equal(1, 2, 1, 2) throws Unsupported");
        script.run(
                "24: pairs, or tuples: a pair and a tuple of its parts are not equal, and no part is looked at",
                600,
                great + "tuple(1, 2, 2); pair(1, 3, 0, 1); equal(1, 2, 1, 3) = false; equal(1, 3, 1, 2) = false",
                "equal(1, 3, 1, 3) throws Unsupported");
        for (int k = 0; k < 4; k++) {
            script.run(
                    "24: equal one by one: part " + k,
                    40,
                    "spawn() = 1; tuple(1, 3, 4); send(1, 3, 1); nil(1, 3); integer(1, " + k + ", 1)",
                    "tuple(1, 3, 4); receive(1, 0) = 0; equal(1, 0, 1, 3) = false; equal(1, 3, 1, 0) = false",
                    "equal(1, 0, 1, 0) = true; equal(1, 3, 1, 3) = true");
        }
    }

    private static void looksAt2000(Script script) {
        String title = "24: if more than 2000 pairs of terms have to be looked at: ";
        String at2000 = "2 x spawn(); " + EqualTest.LOOKED_AT_1983 + "17 x tuple(1, 0, 1); ";
        script.run(title + "2000, of one register", 600, at2000 + "equal(1, 0, 1, 0) = true");
        script.run(
                title + "2001, of one register",
                600,
                at2000 + "tuple(1, 0, 1); equal(1, 0, 1, 0) throws Unsupported");
        script.run(
                title + "2000, of two processes",
                600,
                at2000 + "send(1, 0, 2); receive(2, 3) = 0; equal(1, 0, 2, 3) = true; equal(2, 3, 1, 0) = true");
        script.run(
                title + "2001, of two processes",
                600,
                at2000 + "tuple(1, 0, 1); send(1, 0, 2); receive(2, 3) = 0; equal(1, 0, 2, 3) throws Unsupported",
                "equal(2, 3, 1, 0) throws Unsupported");
        String twoEnds = "integer(1, 1, 5); pair(1, 2, 0, 1); integer(1, 1, 6); pair(1, 3, 0, 1); ";
        String at1998 = "spawn() = 1; " + EqualTest.LOOKED_AT_1983 + "15 x tuple(1, 0, 1); ";
        script.run(
                title + "the 2000th differs",
                600,
                at1998 + twoEnds + "equal(1, 2, 1, 3) = false; equal(1, 2, 1, 2) = true");
        script.run(
                title + "the 2001st would differ",
                600,
                at1998 + "tuple(1, 0, 1); " + twoEnds + "equal(1, 2, 1, 3) throws Unsupported");
        script.run(
                title + "it changes nothing, and the next one begins anew",
                600,
                at2000 + "tuple(1, 0, 1); 2 x equal(1, 0, 1, 0) throws Unsupported; part(1, 1, 0, 0)",
                "2 x equal(1, 1, 1, 1) = true");
    }

    private static void looksInOrder(Script script) {
        String great = "spawn() = 1; 12 x pair(1, 0, 0, 0); ";
        script.run(
                "24: a part that differs ends it: the first of two",
                600,
                great + "integer(1, 1, 5); pair(1, 2, 1, 0); integer(1, 1, 6); pair(1, 3, 1, 0)",
                "equal(1, 2, 1, 3) = false");
        script.run(
                "24: each with all that it leads to: the last of two differs",
                600,
                great + "integer(1, 1, 5); pair(1, 2, 0, 1); integer(1, 1, 6); pair(1, 3, 0, 1)",
                "equal(1, 2, 1, 3) throws Unsupported");
        script.run(
                "24: parts are looked at from the first one on: a part of the first of two differs",
                600,
                great + "integer(1, 1, 5); pair(1, 1, 1, 1); pair(1, 2, 1, 0)",
                "integer(1, 1, 6); pair(1, 1, 1, 1); pair(1, 3, 1, 0); equal(1, 2, 1, 3) = false",
                "equal(1, 3, 1, 2) = false");
    }
}

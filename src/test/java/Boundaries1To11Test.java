/**
 * The sentences of promises 1 to 11 that name a boundary case, each with a run of its own: the last value that is
 * taken, and the first one that is refused. What room is, and what terms are, is in BoundariesOfHeapsTest and
 * BoundariesOfTermsTest.
 */
public final class Boundaries1To11Test {
    /** In process 1: 8 words that stay, in registers 0 to 3. */
    private static final String FULL = "pair(1, 0, 0, 0); pair(1, 1, 0, 0); pair(1, 2, 1, 1); pair(1, 3, 2, 2); ";

    public static void main(String[] args) {
        Script script = new Script();
        newObjects(script);
        spawns(script);
        exits(script);
        exitsWithBlobs(script);
        nils(script);
        integers(script);
        names(script);
        moves(script);
        pairs(script);
        tuples(script);
        blobSizes(script);
        blobsAndRoom(script);
        blobsWithoutWords(script);
        blobsAfterRoom(script);
        thirtyBlobs(script);
        thirtyBlobsOfTheirOwn(script);
        parts(script);
        script.end();
    }

    private static void newObjects(Script script) {
        for (int words : new int[] {40, 39, 38, 8, 1, 0, -1, -40, Integer.MIN_VALUE}) {
            script.run(
                    "1: at least 40: " + words,
                    words,
                    "count(1) = 40; 5 x spawn(); count(1) = 0; spawn() throws State");
        }
        for (int words : new int[] {600, 601, 608, 1000, Integer.MAX_VALUE}) {
            script.run(
                    "1: at most 600: " + words,
                    words,
                    "count(1) = 600; spawn() = 1; 300 x pair(1, 0, 0, 0); count(1) = 0; tuple(1, 1, 0) throws State");
        }
        script.run(
                "1: a pool of so many words: 41",
                41,
                "count(1) = 41; 5 x spawn(); count(1) = 1; spawn() throws State");
        script.run("1: a pool of so many words: 599", 599, "count(1) = 599; spawn() = 1; count(1) = 591");
        script.run(
                "1: no processes, no blobs",
                100,
                "count(0) = 0; count(2) = 0; count(3) = 0; count(4) = 0; of(0, 0) throws Index",
                "of(1, 0) throws Index; exit(1) throws Index");
    }

    private static void spawns(Script script) {
        script.run(
                "2: 8 are alive",
                600,
                "spawn() = 1; 6 x spawn(); spawn() = 8; spawn() throws State; count(1) = 536; count(3) = 8",
                "exit(4) = 8; spawn() = 9; spawn() throws State; count(0) = 8; count(3) = 9");
        script.run(
                "2: fewer than 8 words are free: 7",
                47,
                "5 x spawn(); count(1) = 7; spawn() throws State; count(0) = 5; count(1) = 7");
        script.run(
                "2: fewer than 8 words are free: 8",
                48,
                "5 x spawn(); count(1) = 8; spawn() = 6; count(1) = 0; count(0) = 6");
        script.run(
                "2: fewer than 8 words are free: none",
                40,
                "5 x spawn(); count(1) = 0; spawn() throws State; count(3) = 5");
        script.run(
                "2: 8 are alive, and fewer than 8 words are free",
                64,
                "8 x spawn(); count(1) = 0; spawn() throws State");
        script.run(
                "2: 8 are alive, and a blob has taken all but 7 words: one has to end, then the blob",
                108,
                "8 x spawn(); blob(1, 0, 37); count(1) = 7; spawn() throws State; exit(8) = 8; spawn() = 9",
                "exit(1) = 45; spawn() = 10");
        script.run(
                "2: fewer than 8 words are free: by a blob",
                40,
                "spawn() = 1; blob(1, 0, 25); count(1) = 7; spawn() throws State; nil(1, 0); spawn() throws State",
                "count(4) = 0; collect(1) = 2; spawn() = 2; exit(2) = 8; blob(1, 0, 24); count(1) = 8; spawn() = 3",
                "spawn() throws State");
    }

    private static void exits(Script script) {
        script.run(
                "3: answers how many words are free by that: the capacity, not what lies there",
                100,
                "3 x spawn(); exit(1) = 8; pair(2, 0, 0, 0); exit(2) = 8; 5 x pair(3, 0, 0, 0); of(3, 0) = 16",
                "exit(3) = 16; count(1) = 100; count(0) = 0; count(4) = 1");
        script.run(
                "3: the process ends",
                100,
                "2 x spawn(); send(1, 0, 2) = true; exit(2) = 8; exit(2) throws Index; send(1, 0, 2) = false",
                "receive(2, 0) throws Index; of(2, 0) throws Index; broadcast(1, 0) = 0; count(0) = 1; exit(1) = 8",
                "exit(1) throws Index; count(0) = 0; spawn() = 3");
        script.run(
                "3: registers and messages go",
                100,
                "spawn() = 1; integer(1, 0, 5); 3 x send(1, 0, 1); exit(1) = 8; spawn() = 2; of(2, 2) = 0",
                "receive(2, 0) throws State; kind(2, 0) = 0");
        script.run(
                "3: its heap goes",
                100,
                "spawn() = 1; 5 x pair(1, 0, 0, 0); of(1, 0) = 16; exit(1) = 16; spawn() = 2; of(2, 1) = 0",
                "of(2, 0) = 8; pair(2, 0, 0, 0); address(2, 0) = 0");
        script.run(
                "3: messages go: in one that comes after it they lead to nothing that stays",
                100,
                "spawn() = 1; pair(1, 0, 0, 0); 2 x send(1, 0, 1); exit(1) = 8; spawn() = 2; pair(2, 0, 0, 0)",
                "nil(2, 0); collect(2) = 2; of(2, 1) = 0");
        script.run(
                "3: others stay: the first, one between, and the last of those alive ends",
                100,
                "5 x spawn(); integer(2, 0, 12); integer(4, 0, 14); exit(1) = 8; exit(3) = 8; exit(5) = 8",
                "value(2, 0) = 12; value(4, 0) = 14; count(0) = 2; broadcast(2, 0) = 1; receive(4, 1) = 0",
                "value(4, 1) = 12");
    }

    private static void exitsWithBlobs(Script script) {
        script.run(
                "3: with its handles: the last one of a blob",
                200,
                "2 x spawn(); blob(1, 0, 100); exit(1) = 108; count(2) = 0; count(1) = 192");
        script.run(
                "3: with its handles: not the last one",
                200,
                "2 x spawn(); blob(1, 0, 100); send(1, 0, 2) = true; exit(1) = 8; count(2) = 1; receive(2, 0) = 0",
                "handles(2, 0) = 1; exit(2) = 108; count(2) = 0; count(1) = 200");
        script.run(
                "3: with its handles: several of one blob, whose words are free once",
                200,
                "2 x spawn(); blob(1, 0, 50); 3 x send(1, 0, 2); handles(1, 0) = 4; exit(1) = 8; exit(2) = 58",
                "count(1) = 200");
        script.run(
                "3: with its handles: one that nothing leads to, and one of a message",
                200,
                "2 x spawn(); blob(1, 0, 50); nil(1, 0); blob(1, 1, 7); send(1, 1, 1) = true; nil(1, 1)",
                "exit(1) = 65; count(2) = 0");
    }

    private static void nils(Script script) {
        script.run(
                "4: register r is NIL: what was one before, and what was not",
                40,
                "spawn() = 1; nil(1, 0); kind(1, 0) = 0; pair(1, 0, 0, 0); nil(1, 0); kind(1, 0) = 0; of(1, 1) = 2",
                "count(4) = 0; pair(1, 3, 0, 0); nil(1, 3); kind(1, 3) = 0; blob(1, 1, 5); nil(1, 1); count(2) = 1",
                "count(1) = 27");
    }

    private static void integers(Script script) {
        script.run(
                "5: it is out of range: below",
                40,
                "spawn() = 1; integer(1, 1, -134217728); value(1, 1) = -134217728; integer(1, 1, -134217727)",
                "integer(1, 1, -134217729) throws Argument; value(1, 1) = -134217727",
                "integer(1, 2, -134217729) throws Argument; kind(1, 2) = 0");
        script.run(
                "5: it is out of range: above",
                40,
                "spawn() = 1; integer(1, 1, 134217727); value(1, 1) = 134217727; integer(1, 1, 134217726)",
                "integer(1, 1, 134217728) throws Argument; value(1, 1) = 134217726",
                "integer(1, 2, 134217728) throws Argument; kind(1, 2) = 0");
        script.run(
                "5: it is out of range: what would wrap around into it",
                40,
                "spawn() = 1; integer(1, 0, 268435456) throws Argument; integer(1, 0, 536870912) throws Argument",
                "integer(1, 0, -536870911) throws Argument; integer(1, 0, 1073741825) throws Argument",
                "integer(1, 0, -2147483648) throws Argument; integer(1, 0, 2147483647) throws Argument");
        script.run(
                "5: register r is an integer: 0, 1 and -1 are no other kinds",
                40,
                "spawn() = 1; integer(1, 0, 0); kind(1, 0) = 1; integer(1, 1, 1); kind(1, 1) = 1",
                "integer(1, 2, -1); kind(1, 2) = 1; value(1, 0) = 0; value(1, 1) = 1; value(1, 2) = -1");
    }

    private static void names(Script script) {
        script.run(
                "6: there never was a process with this number: 0 and fewer",
                40,
                "2 x spawn(); name(2, 0, 1); value(2, 0) = 1; name(2, 0, 0) throws Argument",
                "name(2, 0, -1) throws Argument; name(2, 0, -2147483648) throws Argument; value(2, 0) = 1");
        script.run(
                "6: there never was a process with this number: more than the latest",
                40,
                "2 x spawn(); name(1, 0, 2); value(1, 0) = 2; name(1, 0, 3) throws Argument",
                "name(1, 0, 2147483647) throws Argument; value(1, 0) = 2; spawn() = 3; name(1, 0, 3)",
                "value(1, 0) = 3");
        script.run(
                "6: there never was a process with this number: one that was refused",
                40,
                "5 x spawn(); spawn() throws State; name(1, 0, 6) throws Argument; name(1, 0, 5); exit(5) = 8",
                "spawn() = 6; name(1, 0, 6)");
        script.run(
                "6: the name of a process that has ended, the first and the latest",
                40,
                "3 x spawn(); exit(1) = 8; exit(3) = 8; name(2, 0, 1); value(2, 0) = 1; name(2, 1, 3)",
                "value(2, 1) = 3; kind(2, 1) = 2");
    }

    private static void moves(Script script) {
        script.run(
                "7: register r is what register a is: the same register, and NIL",
                40,
                "spawn() = 1; pair(1, 0, 0, 0); move(1, 0, 0); address(1, 0) = 0; kind(1, 0) = 3; move(1, 0, 3)",
                "kind(1, 0) = 0; of(1, 1) = 2");
        script.run(
                "7: register r is what register a is: no copy, where no room is",
                40,
                "5 x spawn(); " + FULL + "move(1, 0, 3); address(1, 0) = 6; address(1, 3) = 6; of(1, 1) = 8",
                "count(4) = 0");
    }

    private static void pairs(Script script) {
        script.run(
                "8: there is no room for 2 words: 2 are left",
                40,
                "5 x spawn(); pair(1, 0, 3, 3); pair(1, 1, 0, 0); pair(1, 2, 1, 1); of(1, 1) = 6; pair(1, 3, 2, 2)",
                "of(1, 1) = 8; count(4) = 0; pair(1, 0, 3, 3) throws State; count(4) = 1; address(1, 0) = 0",
                "words(1, 3) = 8");
        script.run(
                "8: there is no room for 2 words: 1 is left",
                40,
                "5 x spawn(); pair(1, 0, 3, 3); pair(1, 1, 0, 0); tuple(1, 2, 2); of(1, 1) = 7",
                "pair(1, 3, 2, 2) throws State; kind(1, 3) = 0; count(4) = 1; of(1, 1) = 7; tuple(1, 3, 0)",
                "of(1, 1) = 8");
        script.run(
                "8: a new pair each time, of its own register too",
                40,
                "spawn() = 1; pair(1, 0, 1, 1); pair(1, 2, 1, 1); address(1, 0) = 0; address(1, 2) = 2",
                "pair(1, 0, 0, 0); address(1, 0) = 4; part(1, 3, 0, 0); address(1, 3) = 0; part(1, 3, 0, 1)",
                "address(1, 3) = 0");
    }

    private static void tuples(Script script) {
        script.run(
                "9: n is not 0 .. 4: below",
                40,
                "spawn() = 1; tuple(1, 3, 0); value(1, 3) = 0; tuple(1, 3, -1) throws Argument",
                "tuple(1, 3, -2147483648) throws Argument; of(1, 1) = 1");
        script.run(
                "9: n is not 0 .. 4: above",
                40,
                "spawn() = 1; tuple(1, 3, 4); value(1, 3) = 4; tuple(1, 3, 5) throws Argument",
                "tuple(1, 3, 2147483647) throws Argument; of(1, 1) = 5");
        for (int n = 0; n <= 4; n++) {
            script.run(
                    "9: there is no room for n + 1 words: all are taken, n " + n,
                    40,
                    "5 x spawn(); " + FULL + "tuple(1, 3, " + n + ") throws State; kind(1, 3) = 3; count(4) = 1",
                    "of(1, 1) = 8");
            script.run(
                    "9: there is room for n + 1 words, n " + n,
                    40,
                    "5 x spawn(); " + leaving(n + 1),
                    String.format("tuple(1, 1, %d); of(1, 1) = 8; count(4) = 0; value(1, 1) = %1$d", n));
            if (n > 0) {
                script.run(
                        "9: there is room for n words alone, n " + n,
                        40,
                        "5 x spawn(); " + leaving(n) + "tuple(1, 1, " + n + ") throws State; kind(1, 1) = 0",
                        "count(4) = 1",
                        "of(1, 1) = " + (8 - n) + "; tuple(1, 1, " + (n - 1) + "); of(1, 1) = 8");
            }
        }
        script.run(
                "9: what the first n registers are: none of four, and all four, r as well",
                40,
                "spawn() = 1; integer(1, 0, 1); integer(1, 1, 2); integer(1, 2, 3); integer(1, 3, 4)",
                "tuple(1, 0, 4); part(1, 1, 0, 0); value(1, 1) = 1; part(1, 1, 0, 3); value(1, 1) = 4",
                "tuple(1, 2, 0); value(1, 2) = 0; part(1, 1, 2, 0) throws Argument");
    }

    /** In process 1: words that stay, in register 0, until so many of 8 are left. */
    private static String leaving(int words) {
        int taken = 8 - words;
        return (taken % 2 == 0 ? "" : "tuple(1, 0, 0); ") + taken / 2 + " x tuple(1, 0, 1); of(1, 1) = " + taken + "; ";
    }

    private static void blobSizes(Script script) {
        script.run(
                "10: the size is not 1 .. 100: below",
                200,
                "spawn() = 1; blob(1, 0, 1); value(1, 0) = 1; blob(1, 0, 0) throws Argument",
                "blob(1, 0, -1) throws Argument; blob(1, 0, -2147483648) throws Argument; value(1, 0) = 1",
                "count(2) = 1; count(1) = 191");
        script.run(
                "10: the size is not 1 .. 100: above",
                200,
                "spawn() = 1; blob(1, 0, 100); value(1, 0) = 100; blob(1, 0, 101) throws Argument",
                "blob(1, 0, 2147483647) throws Argument; value(1, 0) = 100; count(2) = 1; count(1) = 92");
    }

    private static void blobsAndRoom(Script script) {
        script.run(
                "10: there is no room for 2 words: 2 are left",
                41,
                "5 x spawn(); pair(1, 0, 3, 3); pair(1, 1, 0, 0); pair(1, 2, 1, 1); blob(1, 3, 1); of(1, 1) = 8",
                "count(1) = 0; count(4) = 0; blob(1, 3, 1) throws State; count(4) = 1; count(2) = 1",
                "value(1, 3) = 1");
        script.run(
                "10: there is no room for 2 words: 1 is left",
                47,
                "5 x spawn(); pair(1, 0, 3, 3); pair(1, 1, 0, 0); tuple(1, 2, 2); of(1, 1) = 7",
                "blob(1, 3, 1) throws State; kind(1, 3) = 0; count(4) = 1; count(2) = 0; count(1) = 7",
                "of(1, 1) = 7; of(1, 0) = 8");
    }

    private static void blobsWithoutWords(Script script) {
        script.run(
                "10: fewer words are free than its size: as many, and one more",
                40,
                "spawn() = 1; blob(1, 0, 33) throws Unsupported; of(1, 1) = 0; kind(1, 0) = 0; count(2) = 0",
                "blob(1, 0, 32); count(1) = 0; count(2) = 1; blob(1, 1, 1) throws Unsupported; of(1, 1) = 2",
                "count(4) = 0");
        script.run(
                "10: fewer words are free than its size: 99 of 100",
                107,
                "spawn() = 1; count(1) = 99; blob(1, 0, 100) throws Unsupported; blob(1, 0, 99); count(1) = 0");
        script.run(
                "10: fewer words are free than its size: 100 of 100",
                108,
                "spawn() = 1; blob(1, 0, 100); count(1) = 0; value(1, 0) = 100");
    }

    private static void blobsAfterRoom(Script script) {
        script.run(
                "10: after room was made: the 8 words that the heap has grown by are not free",
                40,
                "4 x spawn(); " + FULL + "count(1) = 8; blob(1, 3, 8) throws Unsupported; of(1, 0) = 16",
                "count(1) = 0; of(1, 1) = 8; count(4) = 1");
        script.run(
                "10: after room was made, one word is free: that room stays",
                41,
                "4 x spawn(); " + FULL + "count(1) = 9; blob(1, 3, 2) throws Unsupported; of(1, 0) = 16",
                "count(1) = 1; kind(1, 3) = 3; count(2) = 0; blob(1, 3, 2) throws Unsupported; count(4) = 1",
                "of(1, 0) = 16; blob(1, 3, 1); of(1, 1) = 10; count(1) = 0; count(4) = 1");
        script.run(
                "10: after room was made, one word is free: it is enough for 1",
                41,
                "4 x spawn(); " + FULL + "blob(1, 3, 1); of(1, 0) = 16; of(1, 1) = 10; count(1) = 0",
                "value(1, 3) = 1; count(2) = 1");
        script.run(
                "10: after room was made by a collection alone: that stays",
                40,
                "spawn() = 1; blob(1, 0, 30); 3 x pair(1, 1, 1, 1); nil(1, 1); of(1, 1) = 8; count(1) = 2",
                "blob(1, 3, 3) throws Unsupported; of(1, 0) = 8; of(1, 1) = 2; count(4) = 1; count(1) = 2",
                "blob(1, 3, 2); count(1) = 0; of(1, 1) = 4; count(4) = 1");
        script.run(
                "10: after room was made: words of a blob that was given back by that are free",
                40,
                "spawn() = 1; blob(1, 0, 32); nil(1, 0); 3 x pair(1, 1, 1, 1); count(1) = 0",
                "blob(1, 0, 33) throws Unsupported; count(1) = 32; count(2) = 0; blob(1, 0, 32); count(1) = 0",
                "count(2) = 1; of(1, 1) = 8");
        script.run(
                "10: after room was made: a blob that was in register r itself is not given back",
                40,
                "spawn() = 1; blob(1, 0, 20); 3 x pair(1, 1, 1, 1); count(1) = 12",
                "blob(1, 0, 5) throws Unsupported; of(1, 0) = 16; count(1) = 4; value(1, 0) = 20; blob(1, 0, 4)",
                "count(1) = 0; value(1, 0) = 4; count(2) = 2; collect(1) = 2; count(2) = 1");
    }

    private static void thirtyBlobs(Script script) {
        String twentyNine = "spawn() = 1; " + "blob(1, 0, 1); pair(1, 1, 0, 1); ".repeat(29) + "count(2) = 29; ";
        script.run(
                "10: there are 30 blobs: the 30th, and one more",
                600,
                twentyNine + "of(1, 1) = 116; of(1, 0) = 120; blob(1, 2, 1); count(2) = 30; of(1, 1) = 118",
                "blob(1, 3, 1) throws Unsupported; count(2) = 30; of(1, 1) = 118; of(1, 0) = 120; kind(1, 3) = 0",
                "nil(1, 2); blob(1, 3, 1) throws Unsupported; count(4) = 14; collect(1) = 2; count(2) = 29",
                "blob(1, 3, 1); count(2) = 30");
        script.run(
                "10: there are 30 blobs: and the heap has grown for one more, which stays",
                600,
                twentyNine + "blob(1, 0, 1); pair(1, 1, 0, 1); of(1, 1) = 120; count(1) = 450",
                "blob(1, 3, 1) throws Unsupported; of(1, 0) = 128; count(1) = 442; count(2) = 30; kind(1, 3) = 0");
        script.run(
                "10: there are 30 blobs: of all processes",
                600,
                twentyNine + "spawn() = 2; spawn() = 3; blob(2, 0, 1); count(2) = 30",
                "blob(3, 0, 1) throws Unsupported; blob(2, 1, 1) throws Unsupported; exit(2) = 9; count(2) = 29",
                "blob(3, 0, 1); count(2) = 30; blob(1, 2, 1) throws Unsupported");
        script.run(
                "10: there are 30 blobs: 29 after room was made",
                600,
                twentyNine + "blob(1, 0, 1); pair(1, 2, 0, 0); of(1, 1) = 120; nil(1, 0); nil(1, 2); count(2) = 30",
                "blob(1, 3, 5); count(2) = 30; value(1, 3) = 5; of(1, 1) = 118; of(1, 0) = 120");
        script.run(
                "10: there are 30 blobs: more handles do not count",
                600,
                twentyNine + "spawn() = 2; 3 x send(1, 0, 2); handles(1, 0) = 4; count(2) = 29; blob(2, 0, 1)",
                "count(2) = 30");
    }

    private static void thirtyBlobsOfTheirOwn(Script script) {
        StringBuilder calls = new StringBuilder("spawn() = 1; ");
        for (int size = 1; size <= 30; size++) {
            calls.append("blob(1, 0, ").append(size).append("); pair(1, 1, 0, 1); ");
        }
        calls.append("count(2) = 30; count(1) = 15; ");
        for (int size = 30; size >= 1; size--) {
            calls.append("part(1, 0, 1, 0); value(1, 0) = ").append(size);
            calls.append("; handles(1, 0) = 1; part(1, 1, 1, 1); ");
        }
        script.run("10: there are 30 blobs: each has its size and its count", 600, calls.toString());
    }

    private static void parts(Script script) {
        script.run(
                "11: that has no such part: a pair",
                40,
                "spawn() = 1; integer(1, 0, 7); integer(1, 1, 8); pair(1, 0, 0, 1); part(1, 2, 0, 0)",
                "value(1, 2) = 7; part(1, 2, 0, 1); value(1, 2) = 8; part(1, 2, 0, -1) throws Argument",
                "part(1, 2, 0, 2) throws Argument; part(1, 2, 0, -2147483648) throws Argument",
                "part(1, 2, 0, 2147483647) throws Argument; value(1, 2) = 8");
        for (int n = 0; n <= 4; n++) {
            script.run(
                    "11: that has no such part: a tuple of " + n,
                    40,
                    "spawn() = 1; integer(1, 0, 10); integer(1, 1, 11); integer(1, 2, 12); integer(1, 3, 13)",
                    "tuple(1, 3, " + n + ")",
                    "part(1, 0, 3, -1) throws Argument; part(1, 0, 3, " + n + ") throws Argument; value(1, 0) = 10",
                    n == 0 ? "" : "part(1, 0, 3, " + (n - 1) + "); value(1, 0) = " + (9 + n) + "; part(1, 0, 3, 0)",
                    "value(1, 0) = 10");
        }
        String[] withoutParts = {"nil(1, 1)", "integer(1, 1, 2)", "name(1, 1, 1)", "blob(1, 1, 9)", "tuple(1, 1, 0)"};
        for (String make : withoutParts) {
            script.run(
                    "11: that has no such part: " + make,
                    40,
                    "spawn() = 1; integer(1, 0, 5); tuple(1, 2, 1); " + make + "; part(1, 0, 1, 0) throws Argument",
                    "part(1, 0, 1, 1) throws Argument; part(1, 0, 1, -1) throws Argument; value(1, 0) = 5");
        }
        script.run(
                "11: register r is part k of what register a is: of itself, where no room is",
                40,
                "5 x spawn(); " + FULL + "part(1, 3, 3, 1); address(1, 3) = 4; part(1, 3, 3, 0); address(1, 3) = 2",
                "of(1, 1) = 8; count(4) = 0");
    }
}

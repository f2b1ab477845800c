/**
 * The sentences of 'Terms' on collecting, on room and on copies that name a boundary case, each with a run of its own
 * under the sentence's words.
 */
public final class BoundariesOfHeapsTest {
    /** In process 1: 8 words that stay, in registers 0 to 3. */
    private static final String FULL =
            "pair(1, 0, 0, 0); pair(1, 1, 0, 0); pair(1, 2, 1, 1); pair(1, 3, 2, 2); of(1, 1) = 8;";

    /** In process 1: 6 words that stay, in registers 0 to 2, and behind them 2 that go. */
    private static final String TWO_TO_GO =
            "pair(1, 0, 0, 0); pair(1, 1, 0, 0); pair(1, 2, 1, 1); pair(1, 3, 2, 2); nil(1, 3); of(1, 1) = 8;";

    /** In process 2: 8 words that stay, in register 0. */
    private static final String OTHER_FULL = "4 x pair(2, 0, 0, 0); of(2, 1) = 8;";

    public static void main(String[] args) {
        Script script = new Script();
        whatStays(script);
        orderOfWhatStays(script);
        capacityAfterCollections(script);
        roomInTheCapacity(script);
        roomByACollection(script);
        roomByGrowth(script);
        noRoom(script);
        roomForMessages(script);
        noRoomForMessages(script);
        wordsOfCollectedBlobs(script);
        copies(script);
        script.end();
    }

    private static void whatStays(Script script) {
        script.run(
                "to collect: nothing lies there",
                40,
                "spawn() = 1; collect(1) = 0; count(4) = 1; of(1, 1) = 0; of(1, 0) = 8");
        script.run(
                "to collect: all stays",
                40,
                "spawn() = 1; " + FULL + "collect(1) = 0; of(1, 1) = 8; words(1, 3) = 8");
        script.run(
                "to collect: all goes",
                40,
                "spawn() = 1; " + FULL + "nil(1, 0); nil(1, 1); nil(1, 2); nil(1, 3); of(1, 1) = 8; collect(1) = 8",
                "of(1, 1) = 0");
        for (int r = 0; r <= 3; r++) {
            script.run(
                    "to collect: what its registers lead to stays: " + r,
                    40,
                    "spawn() = 1; tuple(1, " + r + ", 0); collect(1) = 0",
                    "kind(1, " + r + ") = 4; address(1, " + r + ") = 0",
                    "nil(1, " + r + "); collect(1) = 1");
        }
        script.run(
                "to collect: what its messages lead to stays, from the first to the last",
                40,
                "spawn() = 1; tuple(1, 0, 0); send(1, 0, 1) = true; tuple(1, 0, 1); send(1, 0, 1) = true",
                "nil(1, 0); send(1, 0, 1) = true; tuple(1, 0, 0); send(1, 0, 1) = true; nil(1, 0); collect(1) = 0",
                "of(1, 1) = 4; receive(1, 0) = 3; receive(1, 0) = 2; receive(1, 0) = 1; receive(1, 0) = 0",
                "collect(1) = 3; of(1, 1) = 1; kind(1, 0) = 4; value(1, 0) = 0");
        script.run(
                "to collect: a message that was received leads to nothing",
                40,
                "spawn() = 1; pair(1, 0, 0, 0); send(1, 0, 1) = true; nil(1, 0); collect(1) = 0; receive(1, 0) = 0",
                "nil(1, 0); collect(1) = 2");
        script.run(
                "to collect: over parts of parts as well",
                600,
                "spawn() = 1; integer(1, 0, 9); 100 x tuple(1, 0, 1); collect(1) = 0; words(1, 0) = 200",
                "99 x part(1, 0, 0, 0); collect(1) = 198; words(1, 0) = 2; part(1, 0, 0, 0); value(1, 0) = 9",
                "collect(1) = 2; of(1, 1) = 0");
        script.run(
                "to collect: the last part as well as the first one",
                40,
                "spawn() = 1; tuple(1, 0, 0); tuple(1, 3, 0); tuple(1, 2, 4); nil(1, 0); nil(1, 3); collect(1) = 0",
                "of(1, 1) = 7; part(1, 0, 2, 0); address(1, 0) = 5; part(1, 0, 2, 3); address(1, 0) = 6",
                "part(1, 0, 2, 2); kind(1, 0) = 0");
        script.run(
                "to collect: all others go, and so do their handles",
                100,
                "spawn() = 1; blob(1, 0, 10); blob(1, 1, 20); pair(1, 2, 0, 0); nil(1, 0); nil(1, 1)",
                "collect(1) = 2; count(2) = 1; count(1) = 82; nil(1, 2); collect(1) = 4; count(2) = 0",
                "count(1) = 92");
        script.run(
                "to collect a heap: not those of others",
                40,
                "2 x spawn(); pair(1, 0, 1, 1); nil(1, 0); pair(2, 0, 1, 1); nil(2, 0); collect(1) = 2",
                "of(2, 1) = 2; count(4) = 1");
    }

    private static void orderOfWhatStays(Script script) {
        script.run(
                "those of registers 0 to 3",
                40,
                "spawn() = 1; tuple(1, 3, 0); tuple(1, 2, 1); tuple(1, 1, 0); tuple(1, 0, 2); address(1, 0) = 4",
                "collect(1) = 0; address(1, 0) = 0; address(1, 1) = 3; address(1, 2) = 4; address(1, 3) = 6");
        script.run(
                "then of the messages, the first one first",
                40,
                "spawn() = 1; pair(1, 0, 1, 1); tuple(1, 2, 0); send(1, 2, 1); send(1, 0, 1); move(1, 3, 2)",
                "tuple(1, 3, 2); nil(1, 0); nil(1, 2); collect(1) = 0; address(1, 3) = 0; receive(1, 0) = 1",
                "address(1, 0) = 3; kind(1, 0) = 4; receive(1, 0) = 0; address(1, 0) = 4; kind(1, 0) = 3");
        script.run(
                "then the parts that do not lie there yet, in their order",
                40,
                "spawn() = 1; integer(1, 0, 7); tuple(1, 0, 1); pair(1, 1, 0, 0); tuple(1, 2, 0); pair(1, 3, 2, 1)",
                "nil(1, 0); nil(1, 1); nil(1, 2); collect(1) = 0; address(1, 3) = 0; part(1, 0, 3, 0)",
                "address(1, 0) = 2; part(1, 0, 3, 1); address(1, 0) = 3; part(1, 1, 0, 0); address(1, 1) = 5",
                "part(1, 1, 0, 1); address(1, 1) = 5");
        script.run(
                "going through it from address 0 on: parts of messages before parts of parts",
                40,
                "spawn() = 1; tuple(1, 0, 0); pair(1, 1, 0, 0); tuple(1, 1, 2); integer(1, 2, 5); pair(1, 2, 2, 2)",
                "pair(1, 3, 2, 2); send(1, 3, 1) = true; nil(1, 0); nil(1, 2); nil(1, 3); of(1, 1) = 10",
                "collect(1) = 0; address(1, 1) = 0; receive(1, 0) = 0; address(1, 0) = 3; part(1, 2, 1, 0)",
                "address(1, 2) = 5; part(1, 2, 1, 1); address(1, 2) = 6; part(1, 2, 0, 0); address(1, 2) = 8");
        script.run(
                "each once",
                40,
                "spawn() = 1; pair(1, 0, 1, 1); move(1, 3, 0); pair(1, 1, 0, 0); 3 x send(1, 0, 1); collect(1) = 0",
                "of(1, 1) = 4; address(1, 0) = 0; address(1, 1) = 2; address(1, 3) = 0; receive(1, 2) = 2",
                "address(1, 2) = 0; part(1, 2, 1, 0); address(1, 2) = 0; part(1, 2, 1, 1); address(1, 2) = 0",
                "collect(1) = 0; of(1, 1) = 4");
    }

    private static void capacityAfterCollections(Script script) {
        script.run(
                "the capacity stays: nothing is left",
                40,
                "spawn() = 1; 5 x pair(1, 0, 0, 0); of(1, 0) = 16; nil(1, 0); collect(1) = 10; of(1, 0) = 16",
                "count(1) = 24");
        script.run(
                "the capacity stays: 8 fewer would do",
                40,
                "spawn() = 1; 5 x pair(1, 0, 0, 0); of(1, 0) = 16; part(1, 0, 0, 0); collect(1) = 2; of(1, 1) = 8",
                "of(1, 0) = 16; 4 x pair(1, 0, 0, 0); of(1, 1) = 16; of(1, 0) = 16; count(4) = 2");
        script.run(
                "the capacity stays: where a collection makes more room than is needed",
                40,
                "spawn() = 1; 12 x pair(1, 0, 0, 0); of(1, 1) = 24; of(1, 0) = 24; nil(1, 0); pair(1, 0, 1, 1)",
                "count(4) = 3; of(1, 1) = 2; of(1, 0) = 24; count(1) = 16");
    }

    private static void roomInTheCapacity(Script script) {
        String garbage = "spawn() = 1; 3 x pair(1, 0, 1, 1); of(1, 1) = 6;";
        script.run(
                "if they go into its capacity, there is room: pair",
                40,
                garbage + "pair(1, 0, 1, 1); of(1, 1) = 8; count(4) = 0; pair(1, 0, 1, 1); count(4) = 1",
                "of(1, 1) = 4; of(1, 0) = 8");
        script.run(
                "if they go into its capacity, there is room: one word less than that",
                40,
                garbage + "tuple(1, 0, 0); of(1, 1) = 7; count(4) = 0; pair(1, 0, 1, 1); count(4) = 1",
                "of(1, 1) = 3; of(1, 0) = 8");
        script.run(
                "if they go into its capacity, there is room: blob",
                40,
                garbage + "blob(1, 0, 1); of(1, 1) = 8; count(4) = 0; blob(1, 0, 1); count(4) = 1; of(1, 1) = 4",
                "of(1, 0) = 8");
        for (int n = 0; n <= 4; n++) {
            script.run(
                    "if they go into its capacity, there is room: tuple " + n,
                    40,
                    "spawn() = 1; " + (7 - n) + " x tuple(1, 0, 0); tuple(1, 3, " + n + "); of(1, 1) = 8",
                    "of(1, 0) = 8; count(4) = 0; tuple(1, 2, 0); count(4) = 1; of(1, 0) = 8");
            script.run(
                    "if they go into its capacity, there is room: tuple " + n + ", one word too many",
                    40,
                    "spawn() = 1; " + (8 - n) + " x tuple(1, 0, 0); tuple(1, 3, " + n + "); of(1, 0) = 8",
                    "count(4) = 1",
                    "of(1, 1) = " + (n + 2));
        }
        script.run(
                "if they go into its capacity, there is room: a message",
                40,
                "2 x spawn(); 2 x pair(1, 0, 0, 0); 2 x pair(2, 0, 1, 1); send(1, 0, 2) = true; of(2, 1) = 8",
                "count(4) = 0; tuple(1, 1, 0); send(1, 1, 2) = true; count(4) = 1; of(2, 1) = 7; of(2, 0) = 8");
    }

    private static void roomByACollection(Script script) {
        String none = "5 x spawn(); count(1) = 0; ";
        script.run(
                "otherwise it is collected: they go into it then, where no word is free",
                40,
                none + TWO_TO_GO + "pair(1, 3, 2, 2); count(4) = 1; of(1, 1) = 8; of(1, 0) = 8; address(1, 3) = 6",
                "words(1, 3) = 8");
        script.run(
                "otherwise it is collected: they go into it then, and it does not grow",
                100,
                "spawn() = 1; " + TWO_TO_GO + "blob(1, 3, 1); count(4) = 1; of(1, 1) = 8; of(1, 0) = 8",
                "address(1, 3) = 6");
        script.run(
                "otherwise it is collected: a tuple of 1 goes into it then, one of 2 does not",
                40,
                none + TWO_TO_GO + "tuple(1, 3, 2) throws State; count(4) = 1; of(1, 1) = 6; tuple(1, 3, 1)",
                "of(1, 1) = 8; count(4) = 1");
        script.run(
                "otherwise it is collected: the new structure's parts are where they lie then",
                40,
                "spawn() = 1; pair(1, 0, 1, 1); pair(1, 0, 1, 1); tuple(1, 1, 1); nil(1, 0); address(1, 1) = 4",
                "pair(1, 2, 1, 1); of(1, 1) = 8; pair(1, 3, 2, 1); count(4) = 1; of(1, 1) = 8; address(1, 1) = 0",
                "address(1, 2) = 2; address(1, 3) = 6; part(1, 0, 3, 0); address(1, 0) = 2; part(1, 0, 3, 1)",
                "address(1, 0) = 0");
    }

    private static void roomByGrowth(Script script) {
        script.run(
                "its capacity grows by as many multiples of 8 as are needed: one word too many",
                40,
                "4 x spawn(); count(1) = 8; " + FULL + "tuple(1, 3, 0); count(4) = 1; of(1, 0) = 16; of(1, 1) = 9",
                "count(1) = 0");
        script.run(
                "its capacity grows if that many words are free: 8",
                48,
                "5 x spawn(); count(1) = 8; " + FULL + "pair(1, 3, 3, 3); of(1, 0) = 16; of(1, 1) = 10",
                "count(1) = 0");
        script.run(
                "its capacity grows if that many words are free: 7",
                47,
                "5 x spawn(); count(1) = 7; " + FULL + "pair(1, 3, 3, 3) throws State; of(1, 0) = 8; of(1, 1) = 8",
                "count(1) = 7; tuple(1, 3, 0) throws State; tuple(1, 3, 4) throws State",
                "blob(1, 3, 1) throws State; count(4) = 4");
        script.run(
                "its capacity grows to all words of the pool, and then no more",
                600,
                "spawn() = 1; 300 x pair(1, 0, 0, 0); of(1, 1) = 600; of(1, 0) = 600; count(1) = 0; count(4) = 74",
                "pair(1, 0, 0, 0) throws State; tuple(1, 0, 0) throws State; words(1, 0) = 600; count(4) = 76");
        script.run(
                "its capacity grows to all words of the pool but 7",
                47,
                "spawn() = 1; 20 x pair(1, 0, 0, 0); of(1, 0) = 40; count(1) = 7; tuple(1, 1, 0) throws State",
                "of(1, 0) = 40");
    }

    private static void noRoom(Script script) {
        String[] calls = {"pair(1, 3, 2, 2)", "tuple(1, 3, 2)", "blob(1, 3, 1)"};
        for (String call : calls) {
            script.run(
                    "if not, there is no room: " + call,
                    40,
                    "5 x spawn(); " + FULL + call + " throws State; kind(1, 3) = 3; address(1, 3) = 6",
                    "of(1, 1) = 8; of(1, 0) = 8; count(4) = 1",
                    "exit(5) = 8; exit(4) = 8; " + call + "; of(1, 0) = 16");
        }
        script.run(
                "no room: the collection was done all the same",
                40,
                "5 x spawn(); tuple(1, 3, 0); pair(1, 0, 3, 3); pair(1, 1, 0, 0); pair(1, 2, 1, 1); nil(1, 3)",
                "nil(1, 0); of(1, 1) = 7; part(1, 2, 2, 0); of(1, 1) = 7; tuple(1, 3, 3) throws State",
                "count(4) = 1; of(1, 1) = 5; address(1, 1) = 0; address(1, 2) = 0; of(1, 0) = 8; kind(1, 3) = 0",
                "tuple(1, 3, 2); of(1, 1) = 8; count(4) = 1");
    }

    private static void roomForMessages(Script script) {
        String title = "room for a message: ";
        script.run(
                title + "8 words into nothing",
                40,
                "5 x spawn(); 4 x pair(1, 0, 0, 0); send(1, 0, 2) = true; of(2, 0) = 8; of(2, 1) = 8; count(4) = 0");
        script.run(
                title + "9 words into nothing, 8 are free",
                40,
                "3 x spawn(); tuple(1, 0, 0); 4 x pair(1, 0, 0, 0); of(1, 0) = 16; count(1) = 8",
                "send(1, 0, 2) = true; of(2, 0) = 16; of(2, 1) = 9; count(1) = 0");
        script.run(
                title + "8 words too many, 8 are free",
                40,
                "4 x spawn(); 4 x pair(1, 0, 0, 0); " + OTHER_FULL + "send(1, 0, 2) = true; of(2, 1) = 16",
                "of(2, 0) = 16; count(1) = 0");
        script.run(
                title + "9 words too many, 16 are free",
                40,
                "2 x spawn(); tuple(1, 0, 0); 4 x pair(1, 0, 0, 0); count(1) = 16; " + OTHER_FULL,
                "send(1, 0, 2) = true; of(2, 1) = 17; of(2, 0) = 24; count(1) = 0; count(4) = 2");
        script.run(
                title + "9 words too many, and 2 after the collection, 8 are free",
                40,
                "3 x spawn(); tuple(1, 0, 0); 4 x pair(1, 0, 0, 0); tuple(2, 1, 0); 7 x tuple(2, 0, 0); nil(2, 0)",
                "count(1) = 8; of(2, 1) = 8; send(1, 0, 2) = true; of(2, 1) = 10; of(2, 0) = 16; count(1) = 0");
        script.run(
                title + "284 words too many, 288 are free",
                592,
                "2 x spawn(); 146 x pair(1, 0, 0, 0); count(1) = 288; send(1, 0, 2) = true; of(2, 1) = 292",
                "of(2, 0) = 296; count(1) = 0");
        script.run(
                title + "it is collected, and they go into it then",
                40,
                "5 x spawn(); 3 x pair(1, 0, 0, 0); 4 x pair(2, 0, 1, 1); send(1, 0, 2) = true; of(2, 1) = 8",
                "of(2, 0) = 8; count(4) = 1");
        script.run(
                title + "a plain term needs none",
                40,
                "5 x spawn(); " + OTHER_FULL + "send(1, 0, 2) = true; name(1, 0, 1); send(1, 0, 2) = true",
                "of(2, 2) = 2; count(4) = 0");
    }

    private static void noRoomForMessages(Script script) {
        String title = "no room for a message: ";
        script.run(
                title + "9 words into nothing, 7 are free",
                47,
                "4 x spawn(); tuple(1, 0, 0); 4 x pair(1, 0, 0, 0); of(1, 0) = 16; count(1) = 7",
                "send(1, 0, 2) throws State; of(2, 0) = 8; of(2, 2) = 0; count(4) = 2; count(1) = 7",
                "part(1, 0, 0, 0); send(1, 0, 2) = true; of(2, 1) = 7");
        script.run(
                title + "8 words too many, 7 are free",
                47,
                "5 x spawn(); 4 x pair(1, 0, 0, 0); " + OTHER_FULL + "send(1, 0, 2) throws State; of(2, 0) = 8",
                "of(2, 1) = 8; of(2, 2) = 0");
        script.run(
                title + "9 words too many, 15 are free",
                40,
                "2 x spawn(); tuple(1, 0, 0); 4 x pair(1, 0, 0, 0); blob(2, 0, 1); 3 x pair(2, 0, 0, 0)",
                "of(2, 1) = 8; count(1) = 15; send(1, 0, 2) throws State; of(2, 1) = 8; of(2, 0) = 8; of(2, 2) = 0",
                "count(1) = 15; count(4) = 2; part(1, 0, 0, 0); send(1, 0, 2) = true; of(2, 1) = 15; of(2, 0) = 16",
                "count(1) = 7");
        script.run(
                title + "9 words do not go into 8, but the collection was done all the same",
                40,
                "4 x spawn(); tuple(1, 0, 0); 4 x pair(1, 0, 0, 0); count(1) = 0; count(4) = 1; tuple(2, 0, 0)",
                "nil(2, 0); send(1, 0, 2) throws State; count(4) = 2; of(2, 1) = 0; of(2, 0) = 8; of(2, 2) = 0");
        script.run(
                title + "284 words too many, 287 are free",
                591,
                "2 x spawn(); 146 x pair(1, 0, 0, 0); count(1) = 287; send(1, 0, 2) throws State; of(2, 1) = 0",
                "of(2, 0) = 8; count(1) = 287");
        script.run(
                title + "the collection was done all the same, in the other one's heap alone",
                40,
                "5 x spawn(); 4 x pair(1, 0, 0, 0); tuple(2, 0, 0); tuple(2, 1, 0); nil(2, 0)",
                "pair(1, 1, 0, 0) throws State; count(4) = 1; address(2, 1) = 1; send(1, 0, 2) throws State",
                "count(4) = 2; of(2, 1) = 1; address(2, 1) = 0; of(1, 1) = 8; part(1, 0, 0, 0); of(1, 1) = 8",
                "address(1, 0) = 2; send(1, 0, 2) = true; of(2, 1) = 7; count(4) = 2; address(1, 0) = 2");
    }

    private static void wordsOfCollectedBlobs(Script script) {
        String blobAndGarbage = "spawn() = 1; blob(1, 0, %d); nil(1, 0); 3 x pair(1, 1, 1, 1); of(1, 1) = 8; ";
        script.run(
                "if that many words are free: those of a blob that the collection gave back are",
                40,
                String.format(blobAndGarbage, 32) + "count(1) = 0; tuple(1, 0, 4); count(2) = 0; of(1, 0) = 16",
                "of(1, 1) = 11; count(1) = 24");
        script.run(
                "if that many words are free: 8 of a blob that the collection gave back",
                40,
                "4 x spawn(); blob(1, 0, 8); nil(1, 0); 3 x pair(1, 1, 1, 1); count(1) = 0; tuple(1, 0, 4)",
                "of(1, 0) = 16; count(1) = 0");
        script.run(
                "if that many words are free: 7 of a blob that the collection gave back",
                47,
                "5 x spawn(); blob(1, 0, 7); nil(1, 0); 3 x pair(1, 1, 1, 1); count(1) = 0",
                "tuple(1, 0, 4) throws State; count(1) = 7; count(2) = 0; of(1, 1) = 6; of(1, 0) = 8; count(4) = 1");
    }

    private static void copies(Script script) {
        script.run(
                "a copy comes behind all that lies in the other one, what nothing leads to as well",
                40,
                "2 x spawn(); pair(2, 0, 1, 1); nil(2, 0); tuple(1, 0, 0); send(1, 0, 2) = true; receive(2, 0) = 0",
                "address(2, 0) = 2; of(2, 1) = 3; count(4) = 0");
        script.run(
                "each structure once",
                40,
                "2 x spawn(); tuple(1, 0, 0); pair(1, 1, 0, 0); pair(1, 2, 1, 0); send(1, 2, 2) = true",
                "of(2, 1) = 5; receive(2, 0) = 0; part(2, 1, 0, 1); address(2, 1) = 4; part(2, 1, 0, 0)",
                "address(2, 1) = 2; part(2, 2, 1, 0); address(2, 2) = 4; part(2, 2, 1, 1); address(2, 2) = 4");
        script.run(
                "the term itself first; then, going through these, the parts that are not there yet",
                100,
                "2 x spawn(); tuple(1, 0, 0); pair(1, 1, 0, 0); tuple(1, 2, 1); pair(1, 3, 2, 1); of(1, 1) = 7",
                "send(1, 3, 2) = true; receive(2, 3) = 0; address(2, 3) = 0; part(2, 2, 3, 0); address(2, 2) = 2",
                "part(2, 1, 3, 1); address(2, 1) = 4; part(2, 0, 2, 0); address(2, 0) = 6; part(2, 0, 1, 1)",
                "address(2, 0) = 6; of(2, 1) = 7");
        script.run(
                "a copy of what leads to nothing else",
                40,
                "2 x spawn(); pair(1, 1, 0, 0); pair(1, 2, 1, 1); send(1, 1, 2) = true; of(2, 1) = 2; of(1, 1) = 4",
                "address(1, 2) = 2");
        script.run(
                "a copy of a copy",
                40,
                "2 x spawn(); tuple(1, 0, 0); pair(1, 0, 0, 0); send(1, 0, 2); receive(2, 0) = 0; send(2, 0, 1)",
                "receive(1, 1) = 0; address(1, 1) = 3; part(1, 2, 1, 0); address(1, 2) = 5; of(1, 1) = 6",
                "equal(1, 0, 1, 1) = true");
    }
}

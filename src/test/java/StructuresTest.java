/** Promises 8 to 11: pair, tuple, blob, part; and the room that is made for them. */
public final class StructuresTest {
    public static void main(String[] args) {
        Script script = new Script();
        pairs(script);
        tuples(script);
        blobs(script);
        blobsWithoutWords(script);
        allWordsInOneHeap(script);
        thirtyBlobs(script);
        parts(script);
        script.end();
    }

    private static void pairs(Script script) {
        script.run(
                "8: pair",
                100,
                "spawn() = 1; integer(1, 0, 5); integer(1, 1, 6); pair(1, 2, 0, 1); address(1, 2) = 0",
                "pair(1, 1, 1, 2); address(1, 1) = 2; of(1, 1) = 4; part(1, 3, 1, 0); value(1, 3) = 6",
                "part(1, 3, 1, 1); address(1, 3) = 0; part(1, 0, 3, 1); value(1, 0) = 6; part(1, 0, 3, 0)",
                "value(1, 0) = 5");
        script.run(
                "8: room by a collection, whose addresses the new pair has",
                40,
                "spawn() = 1; integer(1, 0, 1); pair(1, 1, 0, 0); integer(1, 0, 2); pair(1, 1, 0, 0)",
                "integer(1, 0, 3); pair(1, 2, 0, 1); nil(1, 3); pair(1, 3, 3, 3); of(1, 1) = 8; count(4) = 0",
                "nil(1, 3); pair(1, 3, 1, 2); count(4) = 1; of(1, 0) = 8; of(1, 1) = 6; address(1, 1) = 0",
                "address(1, 2) = 2; address(1, 3) = 4; part(1, 0, 3, 0); address(1, 0) = 0; part(1, 0, 0, 1)",
                "value(1, 0) = 2; part(1, 0, 3, 1); address(1, 0) = 2; part(1, 0, 0, 0); value(1, 0) = 3");
        script.run(
                "8: the capacity grows, then there is no room",
                40,
                "4 x spawn(); count(1) = 8; 4 x pair(1, 0, 0, 0); of(1, 0) = 8; pair(1, 0, 0, 0); of(1, 0) = 16",
                "count(1) = 0; count(4) = 1; 3 x pair(1, 0, 0, 0); of(1, 1) = 16; count(4) = 1",
                "pair(1, 1, 0, 0) throws State; count(4) = 2; of(1, 1) = 16; kind(1, 1) = 0",
                "pair(1, 0, 0, 0) throws State; count(4) = 3; words(1, 0) = 16; part(1, 0, 0, 1); pair(1, 0, 0, 0)",
                "count(4) = 4; of(1, 1) = 16; of(1, 0) = 16");
        script.run(
                "8: the collection is done where there is no room",
                40,
                "5 x spawn(); 4 x pair(1, 0, 0, 0); tuple(1, 0, 3) throws State; of(1, 1) = 8; part(1, 0, 0, 0)",
                "tuple(1, 1, 2) throws State; of(1, 1) = 6; words(1, 0) = 6; address(1, 0) = 0; of(1, 0) = 8",
                "pair(1, 1, 0, 0); address(1, 1) = 6; count(4) = 2");
    }

    private static void tuples(Script script) {
        script.run(
                "9: tuple",
                100,
                "spawn() = 1; integer(1, 0, 10); integer(1, 1, 11); integer(1, 2, 12); integer(1, 3, 13)",
                "tuple(1, 3, 4); of(1, 1) = 5; address(1, 3) = 0; part(1, 0, 3, 0); value(1, 0) = 10",
                "part(1, 0, 3, 1); value(1, 0) = 11; part(1, 0, 3, 2); value(1, 0) = 12; part(1, 0, 3, 3)",
                "value(1, 0) = 13; tuple(1, 1, 1); of(1, 1) = 7; address(1, 1) = 5; part(1, 2, 1, 0)",
                "value(1, 2) = 13; tuple(1, 1, 0); of(1, 1) = 8; address(1, 1) = 7; value(1, 1) = 0",
                "kind(1, 1) = 4; words(1, 1) = 1");
        script.run(
                "9: how many parts",
                100,
                "spawn() = 1; tuple(1, 0, 5) throws Argument; tuple(1, 0, -1) throws Argument",
                "tuple(1, 0, 2147483647) throws Argument; tuple(1, 0, -2147483648) throws Argument; kind(1, 0) = 0",
                "count(4) = 0");
        script.run(
                "9: room for one word more than parts",
                40,
                "5 x spawn(); tuple(1, 0, 3); tuple(1, 1, 3); of(1, 1) = 8; of(1, 0) = 8; count(4) = 0",
                "tuple(1, 2, 0) throws State; kind(1, 2) = 0; count(4) = 1; exit(5) = 8; tuple(1, 2, 0)",
                "count(4) = 2; of(1, 0) = 16; address(1, 2) = 8; count(1) = 0; tuple(1, 2, 5) throws Argument");
        script.run(
                "9: the old register stays until there is room",
                100,
                "spawn() = 1; 4 x pair(1, 0, 0, 0); tuple(1, 0, 1); of(1, 0) = 16; of(1, 1) = 10; words(1, 0) = 10");
    }

    private static void blobs(Script script) {
        script.run(
                "10: blob",
                200,
                "spawn() = 1; blob(1, 2, 100); kind(1, 2) = 5; value(1, 2) = 100; handles(1, 2) = 1; of(1, 1) = 2",
                "count(1) = 92; count(2) = 1; blob(1, 2, 1); value(1, 2) = 1; address(1, 2) = 2; count(1) = 91",
                "count(2) = 2; collect(1) = 2; count(2) = 1; count(1) = 191");
        script.run(
                "10: its size",
                200,
                "spawn() = 1; blob(1, 0, 0) throws Argument; blob(1, 0, 101) throws Argument",
                "blob(1, 0, -5) throws Argument; count(2) = 0; kind(1, 0) = 0; count(1) = 192");
        script.run(
                "10: blobs of one size are not one blob",
                200,
                "spawn() = 1; blob(1, 0, 5); blob(1, 1, 5); equal(1, 0, 1, 1) = false; handles(1, 0) = 1",
                "count(2) = 2; pair(1, 2, 0, 0); nil(1, 0); collect(1) = 0; count(2) = 2; nil(1, 2)",
                "collect(1) = 4; count(2) = 1; blob(1, 0, 9); value(1, 0) = 9; value(1, 1) = 5",
                "equal(1, 0, 1, 1) = false");
    }

    private static void blobsWithoutWords(Script script) {
        script.run(
                "10: as many words as are free, and one more",
                40,
                "spawn() = 1; blob(1, 0, 33) throws Unsupported; of(1, 1) = 0; kind(1, 0) = 0; blob(1, 0, 32)",
                "count(1) = 0; blob(1, 1, 1) throws Unsupported; of(1, 1) = 2");
        script.run(
                "10: the room stays",
                40,
                "spawn() = 1; blob(1, 0, 24); pair(1, 1, 0, 0); pair(1, 2, 1, 1); pair(1, 3, 2, 2); count(1) = 8",
                "blob(1, 0, 8) throws Unsupported; of(1, 0) = 16; count(1) = 0; count(4) = 1; value(1, 0) = 24",
                "of(1, 1) = 8; blob(1, 0, 8) throws Unsupported; count(4) = 1; 3 x pair(1, 1, 0, 0)",
                "pair(1, 2, 2, 1); of(1, 1) = 16");
        script.run(
                "10: no room for the handle comes first",
                40,
                "spawn() = 1; blob(1, 0, 32); pair(1, 1, 0, 0); pair(1, 2, 1, 1); pair(1, 3, 2, 2)",
                "blob(1, 0, 1) throws State; count(4) = 1; blob(1, 0, 101) throws Argument");
        script.run(
                "10: words that the collection gave back",
                40,
                "spawn() = 1; blob(1, 0, 32); nil(1, 0); 3 x pair(1, 1, 1, 1); count(1) = 0; blob(1, 0, 32)",
                "count(4) = 1; of(1, 1) = 8; of(1, 0) = 8; count(2) = 1; count(1) = 0; value(1, 0) = 32");
        script.run(
                "9: a collected blob's words let the heap grow",
                40,
                "spawn() = 1; blob(1, 0, 32); nil(1, 0); 3 x pair(1, 1, 1, 1); count(1) = 0; tuple(1, 0, 4)",
                "count(4) = 1; of(1, 0) = 16; of(1, 1) = 11; count(1) = 24; count(2) = 0");
    }

    private static void allWordsInOneHeap(Script script) {
        script.run(
                "8, 9: all words in one heap",
                600,
                "spawn() = 1; 298 x pair(1, 0, 0, 0); tuple(1, 1, 1); tuple(1, 2, 0); tuple(1, 3, 0)",
                "of(1, 0) = 600; of(1, 1) = 600; address(1, 3) = 599; count(1) = 0; collect(1) = 0; of(1, 1) = 600",
                "words(1, 1) = 598; tuple(1, 3, 0) throws State; spawn() throws State; exit(1) = 600");
    }

    private static void thirtyBlobs(Script script) {
        String[] manyBlobs = new String[30];
        java.util.Arrays.fill(manyBlobs, "blob(1, 0, 1); pair(1, 1, 0, 1);");
        String thirty = String.join("", manyBlobs);
        script.run(
                "10: there are 30 blobs",
                600,
                "spawn() = 1; " + thirty,
                "count(2) = 30; of(1, 1) = 120; of(1, 0) = 120; count(1) = 450; blob(1, 2, 1) throws Unsupported",
                "count(2) = 30; of(1, 0) = 128; kind(1, 2) = 0; part(1, 1, 1, 1); nil(1, 0); collect(1) = 4",
                "count(2) = 29; blob(1, 2, 3); count(2) = 30; value(1, 2) = 3; handles(1, 2) = 1",
                "blob(1, 3, 1) throws Unsupported");
        script.run(
                "10: 29 blobs after the collection",
                600,
                "spawn() = 1; " + thirty,
                "part(1, 1, 1, 1); nil(1, 0); count(2) = 30; blob(1, 2, 7); count(2) = 30; value(1, 2) = 7",
                "of(1, 0) = 120");
        script.run(
                "10: handles do not make blobs",
                600,
                "2 x spawn(); " + thirty + " send(1, 1, 2) = true; count(2) = 30; of(2, 1) = 120; handles(1, 0) = 2",
                "send(1, 0, 2) = true; handles(1, 0) = 3; exit(1) = 120; count(2) = 30; exit(2) = 158",
                "count(1) = 600");
    }

    private static void parts(Script script) {
        script.run(
                "11: part",
                100,
                "spawn() = 1; integer(1, 0, 5); name(1, 1, 1); pair(1, 2, 0, 1); tuple(1, 3, 3); part(1, 3, 3, 2)",
                "kind(1, 3) = 3; address(1, 3) = 0; part(1, 0, 3, 1); kind(1, 0) = 2; value(1, 0) = 1",
                "part(1, 3, 3, 0); kind(1, 3) = 1; value(1, 3) = 5; of(1, 1) = 6");
        script.run(
                "11: no such part",
                100,
                "spawn() = 1; part(1, 0, 0, 0) throws Argument; integer(1, 0, 3); part(1, 1, 0, 0) throws Argument",
                "name(1, 0, 1); part(1, 1, 0, 0) throws Argument; pair(1, 1, 0, 0)",
                "part(1, 2, 1, 2) throws Argument; part(1, 2, 1, -1) throws Argument",
                "part(1, 2, 1, 2147483647) throws Argument; part(1, 2, 1, -2147483648) throws Argument",
                "tuple(1, 1, 0); part(1, 2, 1, 0) throws Argument; tuple(1, 1, 4)",
                "part(1, 2, 1, 4) throws Argument; part(1, 2, 1, -1) throws Argument; blob(1, 1, 50)",
                "part(1, 2, 1, 0) throws Argument; kind(1, 2) = 0");
    }
}

/**
 * The sentences of 'What it is' and of 'Terms' that name a boundary case, each with a run of its own under the
 * sentence's words: the last value that is taken, and the first one that is refused.
 */
public final class BoundariesOfTermsTest {
    public static void main(String[] args) {
        Script script = new Script();
        calls(script);
        words(script);
        processes(script);
        processesOfAllCalls(script);
        registersOfAllCalls(script);
        registersAndMailboxes(script);
        plainTerms(script);
        structures(script);
        addresses(script);
        blobs(script);
        blobCounts(script);
        script.end();
    }

    private static void calls(Script script) {
        String title = "at most 512 calls: ";
        script.run(title + "messages", 40, "spawn() = 1; 510 x send(1, 0, 1) = true; receive(1, 0) = 509");
        script.run(title + "a message in the last one", 40, "spawn() = 1; 511 x send(1, 0, 1) = true");
        script.run(
                title + "messages of another one",
                40,
                "2 x spawn(); 508 x send(1, 0, 2) = true; of(2, 2) = 508; receive(2, 0) = 507");
        script.run(
                title + "messages to all",
                64,
                "8 x spawn(); 502 x broadcast(8, 0) = 7; of(1, 2) = 502; of(7, 2) = 502");
        script.run(title + "collections", 40, "spawn() = 1; 510 x collect(1) = 0; count(4) = 510");
        script.run(
                title + "messages, the first one first to the last",
                40,
                "spawn() = 1; integer(1, 0, 1); send(1, 0, 1) = true; nil(1, 0); 252 x send(1, 0, 1) = true",
                "integer(1, 0, 2); send(1, 0, 1) = true; receive(1, 1) = 253; value(1, 1) = 1; 250 x receive(1, 1)",
                "receive(1, 1) = 2; receive(1, 1) = 1");
        StringBuilder numbers = new StringBuilder();
        for (int number = 1; number <= 255; number++) {
            numbers.append("spawn() = ").append(number).append("; exit(").append(number).append(") = 8; ");
        }
        script.run(title + "numbers of processes", 40, numbers.toString(), "spawn() = 256; count(3) = 256");
        script.run(title + "names of these", 40, numbers.toString(), "spawn() = 256; name(256, 3, 255)");
        script.run(
                title + "handles of one blob, as many as all words can hold",
                600,
                "2 x spawn(); blob(1, 0, 1); 292 x send(1, 0, 2) = true; handles(1, 0) = 293; of(2, 1) = 584",
                "of(2, 0) = 584; count(1) = 7; count(2) = 1; send(1, 0, 2) throws State; handles(1, 0) = 293",
                "exit(2) = 584; handles(1, 0) = 1");
    }

    private static void words(Script script) {
        script.run(
                "of which those that no heap and no blob has are free",
                100,
                "count(1) = 100; spawn() = 1; count(1) = 92; spawn() = 2; count(1) = 84; blob(1, 0, 1)",
                "count(1) = 83; blob(2, 0, 83); count(1) = 0; exit(2) = 91; count(1) = 91; 4 x pair(1, 0, 0, 0)",
                "of(1, 0) = 16; count(1) = 83; nil(1, 0); count(1) = 83; trim(1) = 8; count(1) = 92; exit(1) = 8",
                "count(1) = 100");
        script.run(
                "whose capacity is a multiple of 8 words, 8 at first",
                100,
                "spawn() = 1; of(1, 0) = 8; 4 x pair(1, 0, 0, 0); of(1, 1) = 8; of(1, 0) = 8; tuple(1, 1, 0)",
                "of(1, 1) = 9; of(1, 0) = 16; 3 x pair(1, 0, 0, 0); of(1, 1) = 15; of(1, 0) = 16; tuple(1, 2, 0)",
                "of(1, 1) = 16; of(1, 0) = 16; tuple(1, 3, 0); of(1, 1) = 17; of(1, 0) = 24; count(1) = 76");
    }

    private static void processes(Script script) {
        script.run(
                "processes have numbers 1, 2, 3, .., never used again",
                40,
                "spawn() = 1; exit(1) = 8; spawn() = 2; spawn() = 3; exit(3) = 8; spawn() = 4; exit(2) = 8",
                "spawn() = 5; of(1, 0) throws Index; of(2, 0) throws Index; of(3, 0) throws Index; of(4, 0) = 8",
                "of(5, 0) = 8; of(6, 0) throws Index");
        script.run(
                "numbers: one that was refused has none",
                40,
                "5 x spawn(); 2 x spawn() throws State; exit(5) = 8; spawn() = 6; count(3) = 6");
        script.run(
                "at most 8 are alive",
                600,
                "7 x spawn(); count(0) = 7; spawn() = 8; count(0) = 8; spawn() throws State; count(0) = 8",
                "exit(8) = 8; count(0) = 7; spawn() = 9; spawn() throws State; exit(1) = 8; exit(2) = 8",
                "spawn() = 10; spawn() = 11; spawn() throws State; count(0) = 8; count(3) = 11; of(3, 0) = 8",
                "of(11, 0) = 8");
    }

    private static void processesOfAllCalls(Script script) {
        String[] calls = {
            "exit(%d)", "nil(%d, 0)", "integer(%d, 0, 1)", "name(%d, 0, 1)", "move(%d, 0, 1)", "pair(%d, 0, 1, 1)",
            "tuple(%d, 0, 0)", "blob(%d, 0, 1)", "part(%d, 0, 2, 0)", "send(%d, 0, 1)", "broadcast(%d, 0)",
            "receive(%d, 0)", "collect(%d)", "trim(%d)", "of(%d, 0)", "kind(%d, 0)", "value(%d, 0)", "address(%d, 0)",
            "words(%d, 0)", "handles(%d, 0)", "equal(%d, 0, 1, 0)", "equal(1, 0, %d, 0)"
        };
        String title = "there is no process of this number alive: ";
        String setUp = "4 x spawn(); pair(1, 2, 0, 0); send(1, 2, 1); pair(4, 2, 0, 0); send(4, 2, 4); exit(3) = 8";
        for (String call : calls) {
            for (int process : new int[] {1, 4}) {
                script.run(title + "it is", 100, setUp, String.format(call, process));
            }
            for (int process : new int[] {0, -1, 3, 5, Integer.MAX_VALUE, Integer.MIN_VALUE}) {
                script.run(title + process, 100, setUp, String.format(call, process) + " throws Index");
            }
            script.run(title + "none at all", 100, String.format(call, 1) + " throws Index");
        }
    }

    private static void registersOfAllCalls(Script script) {
        String[] calls = {
            "nil(1, %d)", "integer(1, %d, 1)", "name(1, %d, 1)", "move(1, %d, 1)", "move(1, 1, %d)",
            "pair(1, %d, 1, 1)", "pair(1, 1, %d, 1)", "pair(1, 1, 1, %d)", "tuple(1, %d, 0)", "blob(1, %d, 1)",
            "part(1, %d, 0, 0)", "part(1, 1, %d, 0)", "send(1, %d, 2)", "broadcast(1, %d)", "receive(1, %d)",
            "kind(1, %d)", "value(1, %d)", "address(1, %d)", "words(1, %d)", "handles(1, %d)",
            "equal(1, %d, 2, 0)", "equal(2, 0, 1, %d)"
        };
        String setUp = "2 x spawn(); pair(1, 0, 1, 1); pair(1, 3, 1, 1); send(1, 0, 1) = true;";
        for (String call : calls) {
            for (int register : new int[] {0, 3}) {
                script.run("registers 0 .. 3: " + register, 100, setUp, String.format(call, register));
            }
            for (int register : new int[] {-1, 4, Integer.MAX_VALUE, Integer.MIN_VALUE}) {
                script.run(
                        "no such register: " + register,
                        100,
                        setUp,
                        String.format(call, register) + " throws Index");
            }
        }
    }

    private static void registersAndMailboxes(Script script) {
        String[] nils = new String[4];
        for (int r = 0; r < nils.length; r++) {
            nils[r] = String.format("kind(%%d, %d) = 0; value(%%1$d, %d) = 0; address(%%1$d, %d) = -1;", r, r, r);
            script.run("registers, at first NIL", 40, "spawn() = 1", String.format(nils[r], 1));
            script.run(
                    "registers, at first NIL: in one that comes after an ended one",
                    40,
                    "spawn() = 1; pair(1, 0, 0, 0); move(1, 1, 0); move(1, 2, 0); integer(1, 3, 7); exit(1) = 8",
                    "spawn() = 2",
                    String.format(nils[r], 2));
        }
        script.run(
                "registers 0 .. 3 are four",
                40,
                "spawn() = 1; integer(1, 0, 10); integer(1, 1, 11); integer(1, 2, 12); integer(1, 3, 13)",
                "value(1, 0) = 10; value(1, 1) = 11; value(1, 2) = 12; value(1, 3) = 13");
        script.run(
                "a mailbox of messages, first in, first out",
                40,
                "2 x spawn(); of(1, 2) = 0; integer(1, 0, 1); send(1, 0, 1); integer(2, 0, 2); send(2, 0, 1)",
                "integer(1, 0, 3); send(1, 0, 1); of(1, 2) = 3; receive(1, 3) = 2; value(1, 3) = 1; send(1, 3, 1)",
                "receive(1, 3) = 2; value(1, 3) = 2; receive(1, 3) = 1; value(1, 3) = 3; receive(1, 3) = 0",
                "value(1, 3) = 1");
    }

    private static void plainTerms(Script script) {
        script.run(
                "an integer, -2^27 .. 2^27 - 1: the least",
                40,
                "spawn() = 1; integer(1, 0, -134217728); kind(1, 0) = 1; value(1, 0) = -134217728",
                "integer(1, 0, 5); integer(1, 0, -134217729) throws Argument",
                "integer(1, 0, -2147483648) throws Argument; value(1, 0) = 5");
        script.run(
                "an integer, -2^27 .. 2^27 - 1: the greatest",
                40,
                "spawn() = 1; integer(1, 0, 134217727); kind(1, 0) = 1; value(1, 0) = 134217727; integer(1, 0, 5)",
                "integer(1, 0, 134217728) throws Argument; integer(1, 0, 2147483647) throws Argument",
                "value(1, 0) = 5");
        script.run(
                "an integer, -2^27 .. 2^27 - 1, in structures, messages and collections",
                40,
                "2 x spawn(); integer(1, 0, -134217728); integer(1, 1, 134217727); pair(1, 2, 0, 1)",
                "send(1, 2, 2) = true; collect(2) = 0; receive(2, 0) = 0; part(2, 1, 0, 0); part(2, 2, 0, 1)",
                "kind(2, 1) = 1; kind(2, 2) = 1; value(2, 1) = -134217728; value(2, 2) = 134217727",
                "equal(1, 2, 2, 0) = true; equal(1, 0, 2, 1) = true");
        script.run(
                "a name, the number of a process, alive or not",
                40,
                "3 x spawn(); exit(2) = 8; exit(3) = 8; name(1, 0, 1); value(1, 0) = 1; name(1, 1, 2)",
                "value(1, 1) = 2; name(1, 2, 3); value(1, 2) = 3; kind(1, 2) = 2; name(1, 3, 4) throws Argument",
                "name(1, 3, 0) throws Argument");
    }

    private static void structures(Script script) {
        script.run(
                "a pair of two terms, 2 words",
                40,
                "spawn() = 1; pair(1, 0, 1, 1); of(1, 1) = 2; words(1, 0) = 2");
        script.run("a handle of a blob, 2 words", 40, "spawn() = 1; blob(1, 0, 9); of(1, 1) = 2; words(1, 0) = 2");
        for (int n = 0; n <= 4; n++) {
            script.run(
                    "a tuple of 0 .. 4 terms, 1 word more than it has terms: " + n,
                    40,
                    String.format("spawn() = 1; tuple(1, 3, %d); kind(1, 3) = 4; value(1, 3) = %d", n, n),
                    String.format("of(1, 1) = %d; words(1, 3) = %1$d; tuple(1, 0, 0); address(1, 0) = %1$d", n + 1));
            script.run(
                    "the parts of a tuple are 0, 1, ..: " + n,
                    40,
                    "spawn() = 1; integer(1, 0, 1); integer(1, 1, 2); integer(1, 2, 3); integer(1, 3, 4)",
                    "tuple(1, 0, " + n + ")",
                    "part(1, 2, 0, -1) throws Argument; part(1, 2, 0, " + n + ") throws Argument",
                    n == 0 ? "" : "part(1, 2, 0, 0); value(1, 2) = 1",
                    n == 0 ? "" : String.format("part(1, 2, 0, %d); value(1, 2) = %d", n - 1, n));
        }
        script.run(
                "a tuple of 0 .. 4 terms: no other one",
                40,
                "spawn() = 1; tuple(1, 0, -1) throws Argument; tuple(1, 0, 5) throws Argument; of(1, 1) = 0",
                "kind(1, 0) = 0");
        script.run(
                "the parts of a pair are 0 and 1",
                40,
                "spawn() = 1; integer(1, 0, 1); integer(1, 1, 2); pair(1, 3, 0, 1); part(1, 2, 3, 0)",
                "value(1, 2) = 1; part(1, 2, 3, 1); value(1, 2) = 2; part(1, 2, 3, 2) throws Argument",
                "part(1, 2, 3, -1) throws Argument");
        script.run(
                "terms are never changed",
                40,
                "spawn() = 1; integer(1, 0, 1); tuple(1, 1, 1); pair(1, 2, 0, 1); integer(1, 0, 2); nil(1, 1)",
                "part(1, 3, 2, 0); value(1, 3) = 1; part(1, 3, 2, 1); kind(1, 3) = 4; part(1, 3, 3, 0)",
                "value(1, 3) = 1");
    }

    private static void addresses(Script script) {
        script.run(
                "in a row, from address 0 on, without gaps",
                40,
                "spawn() = 1; tuple(1, 0, 0); address(1, 0) = 0; pair(1, 1, 0, 0); address(1, 1) = 1",
                "blob(1, 2, 5); address(1, 2) = 3; tuple(1, 3, 2); address(1, 3) = 5; of(1, 1) = 8; tuple(1, 3, 4)",
                "address(1, 3) = 8; of(1, 1) = 13");
        script.run(
                "what is made comes behind all that is there, what nothing leads to as well",
                40,
                "spawn() = 1; pair(1, 0, 1, 1); nil(1, 0); tuple(1, 0, 0); address(1, 0) = 2; tuple(1, 0, 0)",
                "address(1, 0) = 3; pair(1, 0, 1, 1); address(1, 0) = 4; pair(1, 0, 1, 1); address(1, 0) = 6",
                "of(1, 1) = 8; count(4) = 0");
    }

    private static void blobs(Script script) {
        script.run(
                "blobs have a size, 1 .. 100: the least",
                200,
                "spawn() = 1; blob(1, 0, 1); value(1, 0) = 1; count(1) = 191; blob(1, 1, 0) throws Argument",
                "blob(1, 1, -1) throws Argument; blob(1, 1, -2147483648) throws Argument; count(2) = 1",
                "count(1) = 191; of(1, 1) = 2");
        script.run(
                "blobs have a size, 1 .. 100: the greatest",
                200,
                "spawn() = 1; blob(1, 0, 100); value(1, 0) = 100; count(1) = 92; blob(1, 1, 101) throws Argument",
                "blob(1, 1, 2147483647) throws Argument; count(2) = 1; count(1) = 92; of(1, 1) = 2");
        script.run(
                "blobs take as many words of the pool, and lie in no heap",
                600,
                "spawn() = 1; blob(1, 0, 100); blob(1, 1, 99); of(1, 0) = 8; of(1, 1) = 4; address(1, 1) = 2",
                "count(1) = 393");
    }

    private static void blobCounts(Script script) {
        script.run(
                "a blob's count is how many handles of it there are in all heaps",
                200,
                "3 x spawn(); blob(1, 0, 9); handles(1, 0) = 1; broadcast(1, 0) = 2; handles(1, 0) = 3",
                "send(1, 0, 3) = true; handles(1, 0) = 4; send(1, 0, 1) = true; move(1, 1, 0); pair(1, 2, 0, 0)",
                "handles(1, 0) = 4; handles(1, 1) = 4; receive(3, 0) = 1; nil(3, 0); handles(1, 0) = 4",
                "collect(3) = 2; handles(1, 0) = 3");
        script.run(
                "when the count becomes 0 its words are free again: by a collection",
                200,
                "spawn() = 1; blob(1, 0, 50); move(1, 1, 0); nil(1, 0); collect(1) = 0; count(2) = 1",
                "count(1) = 142; nil(1, 1); count(2) = 1; count(1) = 142; collect(1) = 2; count(2) = 0",
                "count(1) = 192");
        script.run(
                "when the count becomes 0 its words are free again: not while there is one handle",
                200,
                "2 x spawn(); blob(1, 0, 50); send(1, 0, 2) = true; exit(1) = 8; count(2) = 1; count(1) = 142",
                "receive(2, 0) = 0; handles(2, 0) = 1; value(2, 0) = 50; nil(2, 0); count(1) = 142; collect(2) = 2",
                "count(2) = 0; count(1) = 192");
        script.run(
                "when the count becomes 0 its words are free again: two handles in one heap",
                200,
                "2 x spawn(); blob(1, 0, 50); 2 x send(1, 0, 2); nil(1, 0); collect(1) = 2; count(2) = 1",
                "receive(2, 0) = 1; nil(2, 0); collect(2) = 2; count(2) = 1; count(1) = 134; receive(2, 0) = 0",
                "nil(2, 0); collect(2) = 2; count(2) = 0; count(1) = 184");
        String gone = "2 x spawn(); blob(1, 0, 50); blob(1, 1, 60); send(1, 0, 2); 2 x send(1, 1, 2);"
                + "3 x receive(2, 0); nil(2, 0); 2 x collect(2); handles(1, 0) = 1; handles(1, 1) = 1;"
                + "pair(1, 3, 2, 2); ";
        script.run(
                "a blob's count: handles that have gone do not come again with other structures",
                200,
                gone + "send(1, 3, 2); handles(1, 1) = 1; send(1, 3, 2); handles(1, 1) = 1; handles(1, 0) = 1");
        script.run(
                "a blob's count: handles that have gone do not go once more",
                200,
                gone + "pair(2, 0, 0, 0); collect(2) = 0; handles(1, 0) = 1; handles(1, 1) = 1; nil(2, 0)",
                "collect(2) = 2; collect(2) = 0; handles(1, 0) = 1; handles(1, 1) = 1; exit(2) = 8",
                "handles(1, 0) = 1; handles(1, 1) = 1; count(2) = 2; count(1) = 82");
        script.run(
                "when the count becomes 0 its words are free again: one blob after another",
                200,
                "spawn() = 1; blob(1, 0, 50); collect(1) = 0; blob(1, 0, 60); collect(1) = 2; count(2) = 1",
                "count(1) = 132; blob(1, 0, 70); collect(1) = 2; count(2) = 1; count(1) = 122; handles(1, 0) = 1",
                "value(1, 0) = 70; nil(1, 0); collect(1) = 2; collect(1) = 0; count(2) = 0; count(1) = 192");
    }
}

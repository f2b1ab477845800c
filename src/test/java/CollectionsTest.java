/** Promises 15 and 16: collect, trim. */
public final class CollectionsTest {
    public static void main(String[] args) {
        Script script = new Script();
        whatStays(script);
        orderOfWhatStays(script);
        trims(script);
        script.end();
    }

    private static void whatStays(Script script) {
        script.run(
                "15: collect",
                100,
                "spawn() = 1; collect(1) = 0; count(4) = 1; pair(1, 0, 0, 0); pair(1, 1, 0, 0); collect(1) = 0",
                "nil(1, 0); collect(1) = 0; of(1, 1) = 4; nil(1, 1); collect(1) = 4; of(1, 1) = 0; of(1, 0) = 8",
                "count(4) = 4; tuple(1, 0, 0); tuple(1, 0, 4); collect(1) = 0; nil(1, 0); collect(1) = 6",
                "collect(0) throws Index; collect(2) throws Index; count(4) = 6");
        script.run(
                "15: the capacity stays, and other heaps do",
                100,
                "2 x spawn(); pair(2, 0, 0, 0); nil(2, 0); 9 x pair(1, 0, 0, 0); nil(1, 0); of(1, 0) = 24",
                "collect(1) = 18; of(1, 0) = 24; of(1, 1) = 0; of(2, 1) = 2; count(1) = 68");
        script.run(
                "15: messages lead to what stays",
                100,
                "2 x spawn(); 2 x pair(1, 0, 0, 0); send(1, 0, 1) = true; nil(1, 0); collect(1) = 0",
                "receive(1, 2) = 0; words(1, 2) = 4; address(1, 2) = 0; nil(1, 2); collect(1) = 4");
        script.run(
                "15: handles go with the structures",
                100,
                "2 x spawn(); blob(1, 0, 10); send(1, 0, 2) = true; handles(1, 0) = 2; collect(2) = 0",
                "handles(1, 0) = 2; receive(2, 0) = 0; nil(2, 0); handles(1, 0) = 2; collect(2) = 2",
                "handles(1, 0) = 1; count(1) = 74; pair(1, 0, 0, 0); collect(1) = 0; count(2) = 1; nil(1, 0)",
                "collect(1) = 4; count(2) = 0; count(1) = 84");
    }

    private static void orderOfWhatStays(Script script) {
        script.run(
                "15: registers, then messages, then parts",
                200,
                "spawn() = 1; integer(1, 0, 1); pair(1, 1, 0, 0); integer(1, 0, 2); pair(1, 2, 1, 0)",
                "integer(1, 0, 3); pair(1, 3, 0, 2); send(1, 3, 1) = true; integer(1, 0, 4); pair(1, 0, 0, 0)",
                "send(1, 0, 1) = true; integer(1, 0, 5); tuple(1, 0, 1); move(1, 3, 0); nil(1, 0); nil(1, 1)",
                "nil(1, 2); of(1, 1) = 10; collect(1) = 0; address(1, 3) = 0; receive(1, 0) = 1; address(1, 0) = 2",
                "receive(1, 1) = 0; address(1, 1) = 4; part(1, 2, 0, 1); address(1, 2) = 6; part(1, 2, 2, 0)",
                "address(1, 2) = 8; part(1, 2, 2, 1); value(1, 2) = 1; part(1, 2, 1, 0); value(1, 2) = 4",
                "part(1, 2, 0, 0); value(1, 2) = 3");
        script.run(
                "15: each once, breadth first",
                200,
                "spawn() = 1; pair(1, 0, 0, 0); pair(1, 1, 0, 0); tuple(1, 2, 2); pair(1, 3, 2, 1); of(1, 1) = 9",
                "nil(1, 0); nil(1, 1); nil(1, 2); collect(1) = 0; address(1, 3) = 0; part(1, 0, 3, 0)",
                "address(1, 0) = 2; part(1, 1, 3, 1); address(1, 1) = 5; part(1, 2, 1, 0); address(1, 2) = 7",
                "part(1, 2, 1, 1); address(1, 2) = 7; part(1, 2, 0, 0); address(1, 2) = 7; part(1, 2, 0, 1)",
                "address(1, 2) = 5");
        script.run(
                "15: a register of a structure that is a part as well",
                200,
                "spawn() = 1; pair(1, 3, 0, 0); pair(1, 0, 3, 3); collect(1) = 0; address(1, 0) = 0",
                "address(1, 3) = 2; move(1, 1, 3); move(1, 3, 0); move(1, 0, 1); collect(1) = 0; address(1, 0) = 0",
                "address(1, 3) = 2; address(1, 1) = 0; part(1, 2, 3, 1); address(1, 2) = 0");
    }

    private static void trims(Script script) {
        script.run(
                "16: trim",
                200,
                "spawn() = 1; trim(1) = 8; count(4) = 1; 9 x pair(1, 0, 0, 0); of(1, 0) = 24; trim(1) = 24",
                "count(1) = 176; part(1, 0, 0, 0); trim(1) = 16; of(1, 0) = 16; of(1, 1) = 16; count(1) = 184",
                "4 x part(1, 0, 0, 0); trim(1) = 8; of(1, 1) = 8; count(1) = 192; nil(1, 0); trim(1) = 8",
                "of(1, 1) = 0; count(1) = 192");
        script.run(
                "16: just above a multiple of 8",
                200,
                "spawn() = 1; 9 x pair(1, 0, 0, 0); 5 x part(1, 0, 0, 0); tuple(1, 1, 0); trim(1) = 16",
                "of(1, 1) = 9; trim(0) throws Index; trim(2) throws Index; of(1, 0) = 16");
        script.run(
                "16: it is collected, with its handles",
                200,
                "spawn() = 1; 5 x pair(1, 0, 0, 0); blob(1, 1, 50); nil(1, 0); nil(1, 1); count(1) = 134",
                "trim(1) = 8; count(1) = 192; count(2) = 0; of(1, 1) = 0");
    }
}

/** Promises 12 to 14: send, broadcast, receive. */
public final class MessagesTest {
    public static void main(String[] args) {
        Script script = new Script();
        sends(script);
        sharingIsKept(script);
        sendsToItself(script);
        sendsWithoutRoom(script);
        broadcasts(script);
        receives(script);
        manyMessages(script);
        script.end();
    }

    private static void sends(Script script) {
        script.run(
                "12: terms that lie in no heap",
                100,
                "3 x spawn(); send(1, 0, 2) = true; integer(1, 0, -7); send(1, 0, 2) = true; name(1, 0, 3)",
                "send(1, 0, 2) = true; of(2, 2) = 3; of(2, 1) = 0; receive(2, 1) = 2; kind(2, 1) = 0",
                "receive(2, 1) = 1; kind(2, 1) = 1; value(2, 1) = -7; receive(2, 1) = 0; kind(2, 1) = 2",
                "value(2, 1) = 3");
        script.run(
                "12: to one that is not alive",
                100,
                "2 x spawn(); pair(1, 0, 0, 0); exit(2) = 8; send(1, 0, 2) = false; send(1, 0, 0) = false",
                "send(1, 0, -1) = false; send(1, 0, 3) = false; send(1, 0, 2147483647) = false; count(4) = 0",
                "of(1, 2) = 0");
        script.run(
                "12: a handle",
                100,
                "2 x spawn(); blob(1, 0, 10); pair(1, 1, 0, 0); send(1, 1, 2) = true; handles(1, 0) = 2",
                "of(2, 1) = 4; count(1) = 74; count(2) = 1; receive(2, 0) = 0; part(2, 1, 0, 0); part(2, 2, 0, 1)",
                "address(2, 1) = 2; address(2, 2) = 2; handles(2, 1) = 2; equal(1, 0, 2, 1) = true; exit(1) = 8",
                "handles(2, 1) = 1; nil(2, 0); nil(2, 1); nil(2, 2); collect(2) = 4; count(2) = 0; count(1) = 92");
        script.run(
                "12: the sender's heap stays as it is",
                100,
                "2 x spawn(); 3 x pair(1, 0, 0, 0); nil(1, 1); send(1, 0, 2) = true; of(1, 1) = 6",
                "address(1, 0) = 4; of(2, 1) = 6");
    }

    private static void sharingIsKept(Script script) {
        script.run(
                "12: the order of a copy, each structure once",
                200,
                "2 x spawn(); pair(2, 0, 0, 0); integer(1, 0, 1); pair(1, 1, 0, 0); integer(1, 0, 2)",
                "tuple(1, 2, 1); pair(1, 3, 2, 1); move(1, 0, 1); tuple(1, 0, 4); of(1, 0) = 16; words(1, 0) = 11",
                "send(1, 0, 2) = true; of(2, 1) = 13; receive(2, 1) = 0; address(2, 1) = 2; value(2, 1) = 4",
                "part(2, 2, 1, 0); address(2, 2) = 7; kind(2, 2) = 3; part(2, 2, 1, 1); address(2, 2) = 7",
                "part(2, 2, 1, 2); address(2, 2) = 9; kind(2, 2) = 4; part(2, 2, 1, 3); address(2, 2) = 11",
                "part(2, 3, 2, 0); address(2, 3) = 9; part(2, 3, 2, 1); address(2, 3) = 7; words(2, 1) = 11",
                "part(2, 3, 3, 1); value(2, 3) = 1; equal(1, 0, 2, 1) = true");
        script.run(
                "12: two messages share nothing",
                200,
                "2 x spawn(); pair(1, 0, 0, 0); 2 x send(1, 0, 2); of(2, 1) = 4; receive(2, 0) = 1",
                "receive(2, 1) = 0; address(2, 0) = 0; address(2, 1) = 2");
        script.run(
                "12: what is shared twelve times over takes few words",
                200,
                "2 x spawn(); 12 x pair(1, 0, 0, 0); send(1, 0, 2) = true; of(2, 1) = 24; of(2, 0) = 24");
    }

    private static void sendsToItself(Script script) {
        script.run(
                "12: to itself without a copy",
                40,
                "5 x spawn(); 4 x pair(1, 0, 0, 0); send(1, 0, 1) = true; of(1, 1) = 8; of(1, 2) = 1; count(4) = 0",
                "blob(1, 0, 1) throws State; count(4) = 1; nil(1, 0); collect(1) = 0; receive(1, 3) = 0",
                "address(1, 3) = 0; words(1, 3) = 8; nil(1, 3); collect(1) = 8");
    }

    private static void sendsWithoutRoom(Script script) {
        script.run(
                "12: the other one's heap is collected for room, then grows",
                48,
                "5 x spawn(); 3 x pair(1, 0, 0, 0); pair(2, 0, 0, 0); nil(2, 0); pair(2, 0, 0, 0)",
                "send(1, 0, 2) = true; count(4) = 1; of(2, 0) = 8; of(2, 1) = 8; address(2, 0) = 0; count(1) = 8",
                "part(1, 0, 0, 0); send(1, 0, 2) = true; count(4) = 2; of(2, 0) = 16; of(2, 1) = 12; count(1) = 0",
                "pair(1, 2, 0, 0); words(1, 2) = 6; send(1, 2, 2) throws State; of(2, 2) = 2; of(2, 1) = 12");
        script.run(
                "12: no room, but collected",
                40,
                "5 x spawn(); 4 x pair(2, 0, 0, 0); nil(2, 0); blob(2, 0, 1) throws Unsupported; of(2, 1) = 0",
                "pair(2, 0, 0, 0); pair(2, 0, 0, 0); nil(2, 1); part(2, 0, 0, 0); 4 x pair(1, 0, 0, 0)",
                "send(1, 0, 2) throws State; of(2, 1) = 2; of(2, 2) = 0; count(4) = 2; address(2, 0) = 0",
                "part(1, 0, 0, 0); send(1, 0, 2) = true; of(2, 1) = 8; of(2, 2) = 1");
        script.run(
                "12: messages are kept by a collection for room",
                40,
                "5 x spawn(); pair(1, 0, 0, 0); 4 x send(1, 0, 2); of(2, 1) = 8; send(1, 0, 2) throws State",
                "of(2, 2) = 4; of(2, 1) = 8; receive(2, 0) = 3; receive(2, 0) = 2; send(1, 0, 2) = true",
                "of(2, 1) = 8");
        script.run(
                "12: a plain term needs no room",
                40,
                "5 x spawn(); 4 x pair(2, 0, 0, 0); integer(1, 0, 4); send(1, 0, 2) = true; count(4) = 0",
                "of(2, 2) = 1");
    }

    private static void broadcasts(Script script) {
        script.run(
                "13: to all other ones",
                100,
                "broadcast(1, 0) throws Index; spawn() = 1; broadcast(1, 0) = 0; of(1, 2) = 0; 3 x spawn()",
                "blob(2, 3, 10); broadcast(2, 3) = 3; of(1, 2) = 1; of(2, 2) = 0; of(3, 2) = 1; of(4, 2) = 1",
                "handles(2, 3) = 4; exit(3) = 8; broadcast(2, 3) = 2; handles(2, 3) = 5; of(1, 1) = 4",
                "of(4, 1) = 4");
        script.run(
                "13: the least number first, who takes the last words",
                48,
                "4 x spawn(); exit(1) = 8; spawn() = 5; count(1) = 16; 3 x pair(3, 0, 0, 0); 2 x broadcast(3, 0)",
                "of(2, 1) = 12; of(2, 0) = 16; of(4, 1) = 12; of(4, 0) = 16; of(5, 1) = 6; of(5, 2) = 1",
                "count(1) = 0; count(4) = 3; broadcast(3, 0) = 0; count(4) = 6");
        script.run(
                "13: the next one is sent to where there is no room",
                40,
                "5 x spawn(); 4 x pair(2, 0, 0, 0); part(2, 0, 0, 0); pair(1, 0, 0, 0); pair(1, 0, 0, 0)",
                "broadcast(1, 0) = 3; of(2, 2) = 0; of(2, 1) = 6; of(3, 2) = 1; of(5, 2) = 1; count(4) = 1");
    }

    private static void receives(Script script) {
        script.run(
                "14: first in, first out",
                100,
                "2 x spawn(); receive(2, 0) throws State; integer(1, 0, 1); send(1, 0, 2) = true; integer(1, 0, 2)",
                "send(1, 0, 2) = true; receive(2, 0) = 1; value(2, 0) = 1; integer(1, 0, 3); send(1, 0, 2) = true",
                "integer(2, 1, 4); send(2, 1, 2) = true; receive(2, 0) = 2; value(2, 0) = 2; receive(2, 3) = 1",
                "value(2, 3) = 3; receive(2, 3) = 0; value(2, 3) = 4; receive(2, 3) throws State; value(2, 3) = 4",
                "receive(2, 4) throws Index");
    }

    private static void manyMessages(Script script) {
        script.run(
                "14: as many messages as calls can bring",
                100,
                "spawn() = 1; integer(1, 0, 1); 150 x send(1, 0, 1); integer(1, 1, 2); 120 x send(1, 1, 1)",
                "of(1, 2) = 270; 149 x receive(1, 2); value(1, 2) = 1; receive(1, 2) = 120; value(1, 2) = 1",
                "receive(1, 2) = 119; value(1, 2) = 2");
        script.run("14: 510 messages", 100, "spawn() = 1; 510 x send(1, 0, 1); of(1, 2) = 510");
    }
}

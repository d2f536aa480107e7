/** Promises 8 to 11: time and leases. */
public final class LeaseTest {
    public static void main(String[] args) {
        pass();
        leases();
        leasesThatEnd();
        recalls();
        recallsOfOneName();
        recallsOfMoves();
        known();
        Script.end();
    }

    private static void pass() {
        Script.run("8 pass answers the time then",
            "pass 1 = 1; pass 100 = 101; pass 9 = 110; pass 50 = 160; pass 100 = 260");
        Script.range("8 pass throws IllegalArgumentException if minutes is out of range",
            "", "pass #", 1, 100, "IAE");
        Script.run("8 a pass that throws lets no time pass",
            "lookup 0 0 0 = -1; pass 9 = 9; pass 0 = IAE; pass -1 = IAE; pass 101 = IAE",
            "leases 0 = 1; pass 2147483647 = IAE; pass -2147483648 = IAE; pass 1 = 10");
    }

    private static void leases() {
        Script.run("9 a lease runs while the time is less than 10 minutes behind",
            "lookup 0 0 0 = -1; leases 0 = 1; pass 9 = 9; leases 0 = 1; pass 1 = 10; leases 0 = 0");
        Script.run("9 each lease runs for its own time",
            "lookup 0 0 0 = -1; pass 4 = 4; lookup 0 0 1 = -1; leases 0 = 2; leases 1 = 0",
            "pass 5 = 9; leases 0 = 2; pass 1 = 10; leases 0 = 1; pass 3 = 13; leases 0 = 1",
            "pass 1 = 14; leases 0 = 0; lookup 0 0 0 = -1; leases 0 = 1; pass 100 = 114",
            "leases 0 = 0");
        Script.run("9 a lease that is used does not run longer, one got anew does",
            "lookup 0 0 0 = -1; pass 9 = 9; lookup 0 0 0 = -1; pass 1 = 10; leases 0 = 0",
            "lookup 0 0 0 = -1; known 0 = 1; pass 9 = 19; leases 0 = 1; pass 1 = 20; leases 0 = 0");
        StringBuilder all = new StringBuilder();
        for (int name = 0; name < 50; name++) {
            all.append("lookup 1 0 " + name + " = -1; lookup 1 11 " + name + " = -1;");
        }
        Script.run("9 leases counts them on all names, in all directories, of one client",
            Script.chain(11, 0), "lookup 0 0 0 = -3; remove 0 10 0 = -13; lookup 2 10 0 = -1",
            "leases 0 = 1; leases 2 = 1; leases 3 = 0; leases 1 = 0");
        Script.run("9 there may be a lease on each name",
            Script.chain(10, 0), "makeDirectory 0 10 49 = 11;",
            all.toString().replace("lookup 1 0 0 = -1", "lookup 1 0 0 = -3"),
            "leases 1 = 100; leases 0 = 0");
        Script.range("9 leases throws IllegalArgumentException if client is out of range",
            "", "leases #", 0, 3, "IAE");
    }

    private static void leasesThatEnd() {
        Script.run("9 the client that changes a name loses its lease on it and gets none",
            "makeFile 0 0 0 = 0; leases 0 = 0; lookup 0 0 0 = 0; lookup 0 0 1 = -1",
            "link 0 0 1 0 = 2; leases 0 = 1; rename 0 0 0 0 2 = ok; leases 0 = 0",
            "lookup 0 0 2 = 0; remove 0 0 2 = 0; leases 0 = 0; lookup 0 0 5 = -1",
            "makeDirectory 0 0 5 = 1; leases 0 = 0; lookup 0 0 6 = -1; makeFile 0 0 6 = 1",
            "leases 0 = 0; recalls 0 = 0");
        Script.run("9 with a directory that is gone all leases in it end, without being recalled",
            "makeDirectory 0 0 0 = 1; makeDirectory 0 0 1 = 2; lookup 1 1 3 = -1",
            "lookup 1 1 4 = -1; lookup 1 2 3 = -1; lookup 2 1 3 = -1; lookup 3 1 49 = -1",
            "leases 1 = 3; remove 3 0 0 = -3; leases 1 = 1; leases 2 = 0; leases 3 = 0",
            "recalls 1 = 0; recalls 2 = 0; recalls 3 = 0; makeDirectory 0 0 0 = 3",
            "leases 1 = 1; lookup 1 3 3 = -1; leases 1 = 2");
        Script.run("9 leases below a directory that is renamed go on",
            "makeDirectory 0 0 0 = 1; makeDirectory 0 0 1 = 2; lookup 1 1 3 = -1; pass 9 = 9",
            "rename 0 0 0 2 0 = ok; leases 1 = 1; lookup 1 1 3 = -1; known 1 = 1; recalls 1 = 0",
            "pass 1 = 10; leases 1 = 0");
    }

    private static void recalls() {
        Script.run("10 leases of other clients are recalled when a name changes, not the changer's",
            "lookup 0 0 0 = -1; lookup 1 0 0 = -1; lookup 2 0 0 = -1; lookup 3 0 1 = -1",
            "makeFile 1 0 0 = 0; recalls 0 = 1; recalls 1 = 0; recalls 2 = 1; recalls 3 = 0",
            "leases 0 = 0; leases 1 = 0; leases 2 = 0; leases 3 = 1",
            "link 0 0 1 0 = 2; recalls 3 = 1; lookup 3 0 0 = 0; lookup 3 0 2 = -1",
            "rename 0 0 0 0 2 = ok; recalls 3 = 3; lookup 0 0 2 = 0; remove 2 0 2 = 0",
            "recalls 0 = 2; lookup 1 0 5 = -1; makeDirectory 2 0 5 = 1; recalls 1 = 1");
        Script.run("10 a lease that runs for 9 minutes is recalled, one of 10 minutes is not",
            "lookup 0 0 0 = -1; lookup 1 0 1 = -1; pass 1 = 1; lookup 2 0 0 = -1; pass 9 = 10",
            "makeFile 3 0 0 = 0; makeFile 3 0 1 = 1; recalls 0 = 0; recalls 1 = 0; recalls 2 = 1",
            "remove 3 0 0 = 0; recalls 2 = 1");
        Script.run("10 a lease is recalled once",
            "lookup 0 0 0 = -1; makeFile 1 0 0 = 0; remove 1 0 0 = 0; recalls 0 = 1",
            "lookup 0 0 0 = -1; makeFile 1 0 0 = 1; recalls 0 = 2");
        Script.range("10 recalls throws IllegalArgumentException if client is out of range",
            "", "recalls #", 0, 3, "IAE");
    }

    private static void recallsOfOneName() {
        Script.run("10 a directory that goes recalls the leases on its own name alone",
            "makeDirectory 0 0 0 = 1; lookup 1 0 0 = -3; lookup 1 1 0 = -1; lookup 2 1 0 = -1",
            "remove 0 0 0 = -3; recalls 1 = 1; recalls 2 = 0; leases 1 = 0; leases 2 = 0");
        Script.run("10 the same name of another directory is another name",
            "makeDirectory 0 0 0 = 1; lookup 1 0 3 = -1; lookup 1 1 3 = -1; makeFile 0 1 3 = 0",
            "recalls 1 = 1; leases 1 = 1; lookup 1 0 3 = -1; known 1 = 1");
        Script.run("10 another name of the same hash is another name",
            "lookup 1 0 3 = -1; lookup 1 0 11 = -1; makeFile 0 0 11 = 0; recalls 1 = 1",
            "lookup 1 0 3 = -1; known 1 = 1");
    }

    private static void recallsOfMoves() {
        Script.run("10 the first step of a move recalls the leases of all clients",
            "lookup 0 0 0 = -1; lookup 1 0 0 = -1; lookup 2 0 49 = -1; lookup 3 0 0 = -1",
            "beginMove 0 0 1 = ok; recalls 0 = 0; recalls 3 = 0; stepMove = 1; recalls 0 = 1",
            "recalls 1 = 1; recalls 2 = 1; recalls 3 = 1; stepMove = 2; recalls 0 = 1");
        Script.run("10 a move that is given up recalled what its first step did",
            "lookup 0 0 0 = -1; beginMove 0 0 1 = ok; giveUpMove = 0; recalls 0 = 0; leases 0 = 1",
            "beginMove 0 0 1 = ok; stepMove = 1; giveUpMove = 1; recalls 0 = 1; leases 0 = 0");
    }

    private static void known() {
        Script.run("11 a client knows a name while its lease runs",
            "lookup 0 0 0 = -1; known 0 = 0; lookup 0 0 0 = -1; lookup 0 0 0 = -1; known 0 = 2",
            "lookup 1 0 0 = -1; known 1 = 0; load 0 = 2; pass 9 = 9; lookup 0 0 0 = -1",
            "known 0 = 3; load 0 = 2; pass 1 = 10; lookup 0 0 0 = -1; known 0 = 3; load 0 = 3",
            "byTree 0 0 = -1; known 0 = 3; known 1 = 0; known 2 = 0; known 3 = 0");
        Script.run("11 a client does not know what has been recalled, or what it changed",
            "lookup 0 0 0 = -1; makeFile 1 0 0 = 0; lookup 0 0 0 = 0; known 0 = 0",
            "lookup 1 0 0 = 0; known 1 = 0; remove 1 0 0 = 0; lookup 1 0 0 = -1; known 1 = 0");
        Script.run("11 the number of a directory that is gone takes no lease along",
            "makeDirectory 0 0 0 = 1; lookup 1 1 3 = -1; remove 0 0 0 = -3",
            "makeDirectory 0 0 0 = 2; lookup 1 2 3 = -1; known 1 = 0");
        Script.range("11 known throws IllegalArgumentException if client is out of range",
            "", "known #", 0, 3, "IAE");
    }
}

/** Promises 18 to 21: moves, and what is frozen by them. */
public final class MoveTest {
    public static void main(String[] args) {
        beginMove();
        beginMoveRanges();
        beginMoveStates();
        stepMove();
        stepMoveRecalls();
        stepMoveThrows();
        giveUpMove();
        isFrozen();
        frozenByHash();
        isFrozenThrows();
        Script.end();
    }

    private static void beginMove() {
        for (int hash = 0; hash < 8; hash++) {
            String halves = hash < 4 ? "22220000" : hash < 6 ? "00002200" : "00000022";
            Script.run("18 the fragment that has the hash moves, and no other",
                "split 0 0 = 2; split 0 4 = 3;", Script.move(0, hash, 2), Script.owners(0, halves));
        }
        Script.run("18 a fragment may move to any other server, and back",
            Script.move(0, 0, 1), Script.move(0, 7, 3), Script.move(0, 0, 2), Script.move(0, 0, 0),
            Script.owners(0, "00000000"), "beginMove 0 0 3 = ok; stepMove = 1; ownerOf 0 0 = 0");
        Script.run("18 beginMove freezes, recalls nothing and leaves the owner",
            "lookup 0 0 0 = -1; beginMove 0 0 1 = ok; leases 0 = 1; recalls 0 = 0; ownerOf 0 0 = 0",
            "isFrozen 0 0 = true; load 0 = 1; load 1 = 0");
    }

    private static void beginMoveRanges() {
        Script.range("18 beginMove throws IllegalArgumentException if hash is out of range",
            "", "beginMove 0 # 1", 0, 7, "IAE");
        Script.range("18 beginMove throws IllegalArgumentException if server is out of range",
            Script.move(0, 0, 1), "beginMove 0 0 #", 0, 3, "IAE");
        Script.noSuchDirectory(
            "18 beginMove throws IndexOutOfBoundsException if there is no such directory",
            "", "beginMove # 0 1");
        Script.run("18 of several exceptions beginMove throws the first one",
            "beginMove 1 8 1 = IAE; beginMove 1 0 4 = IAE; beginMove 0 8 0 = IAE",
            "beginMove 0 -1 0 = IAE; beginMove 0 0 1 = ok; beginMove 0 0 4 = IAE",
            "beginMove 0 8 2 = IAE; beginMove 1 0 -1 = IAE; beginMove 1 0 2 = IOOBE",
            "beginMove 1 0 0 = IOOBE; stepMove = 1; stepMove = 2; ownerOf 0 0 = 1");
    }

    private static void beginMoveStates() {
        Script.run("18 beginMove throws IllegalStateException if a move goes on",
            "split 0 0 = 2; makeDirectory 0 0 2 = 1; beginMove 0 7 1 = ok; beginMove 0 7 2 = ISE",
            "beginMove 0 0 2 = ISE; beginMove 1 0 2 = ISE; giveUpMove = 0; beginMove 0 0 2 = ok",
            "stepMove = 1; beginMove 0 4 1 = ISE; stepMove = 2; beginMove 0 4 1 = ok;",
            Script.frozen(0, "....****"), "stepMove = 1; stepMove = 2;",
            Script.owners(0, "22221111"));
        Script.run("18 beginMove throws IllegalStateException while a move of balance goes on",
            "split 0 0 = 2;", Script.asked(0, 0, 2), Script.asked(0, 7, 2), "balance = 0",
            "beginMove 0 7 2 = ISE; giveUpMove = 0; beginMove 0 7 2 = ok");
        Script.run("18 beginMove throws IllegalStateException if the server is the owner",
            "beginMove 0 7 0 = ISE; stepMove = ISE; beginMove 0 0 2 = ok; stepMove = 1",
            "stepMove = 2; beginMove 0 0 2 = ISE; beginMove 0 7 2 = ISE; beginMove 0 0 0 = ok");
        Script.run("18 beginMove throws IllegalStateException if the server is the inherited one",
            "makeDirectory 0 0 0 = 1; makeDirectory 0 1 0 = 2; beginMove 1 0 0 = ISE",
            "beginMove 2 0 0 = ISE;", Script.move(1, 0, 1), "beginMove 1 0 1 = ISE",
            "beginMove 2 0 1 = ISE; isFrozen 2 0 = false;", Script.move(2, 0, 0),
            "ownerOf 2 0 = 0; beginMove 2 0 1 = ok");
    }

    private static void stepMove() {
        Script.run("19 stepMove answers 1 behind the first step, 2 behind the second, the last one",
            "beginMove 0 0 1 = ok; stepMove = 1; stepMove = 2; stepMove = ISE",
            "beginMove 0 0 2 = ok; stepMove = 1; giveUpMove = 1; beginMove 0 0 3 = ok; stepMove = 1",
            "stepMove = 2; ownerOf 0 0 = 3");
        Script.run("19 the second step makes the server the owner of the fragment alone",
            "makeDirectory 0 0 0 = 1; makeDirectory 0 1 0 = 2; split 1 0 = 2",
            "beginMove 1 0 2 = ok; stepMove = 1;", Script.owners(1, "--------"),
            "serverOf 2 0 = 0; isFrozen 1 0 = true; stepMove = 2;", Script.owners(1, "2222----"),
            "ownerOf 2 0 = -1; serverOf 2 0 = 2; isFrozen 1 0 = false; isFrozen 2 0 = false",
            "makeFile 0 1 1 = 0; ownerOf 0 0 = 0");
    }

    private static void stepMoveRecalls() {
        Script.run("19 the first step recalls all leases that run on names in frozen fragments",
            "makeDirectory 0 0 0 = 1; makeDirectory 0 1 0 = 2; lookup 0 1 0 = -4",
            "lookup 0 2 49 = -1; lookup 1 2 49 = -1; lookup 2 0 0 = -3; lookup 3 2 5 = -1",
            "pass 9 = 9; lookup 2 1 3 = -1; pass 1 = 10; lookup 1 2 49 = -1",
            "beginMove 1 0 2 = ok; recalls 1 = 0; leases 1 = 1; stepMove = 1",
            "recalls 0 = 0; recalls 1 = 1; recalls 2 = 1; recalls 3 = 0; leases 1 = 0",
            "leases 2 = 0; lookup 1 2 49 = -1; known 1 = 0");
        Script.run("19 the second step recalls nothing",
            "lookup 0 0 0 = -1; beginMove 0 0 1 = ok; stepMove = 1; recalls 0 = 1",
            "lookup 0 0 0 = -1; lookup 1 0 5 = -1; stepMove = 2; recalls 0 = 1; recalls 1 = 0",
            "leases 0 = 1; leases 1 = 1; lookup 0 0 0 = -1; known 0 = 1");
        Script.run("19 leases out of frozen fragments stay",
            "split 0 0 = 2; makeDirectory 0 0 1 = 1; makeDirectory 0 1 1 = 2;",
            Script.move(2, 0, 3), "lookup 0 0 0 = -1",
            "lookup 0 0 2 = -1; lookup 0 1 1 = -4; lookup 0 2 1 = -1; leases 0 = 4",
            "beginMove 0 0 1 = ok; stepMove = 1; leases 0 = 2; recalls 0 = 2; stepMove = 2",
            "lookup 0 0 2 = -1; lookup 0 2 1 = -1; known 0 = 2; leases 0 = 2");
        StringBuilder all = new StringBuilder();
        for (int name = 0; name < 50; name++) {
            all.append("lookup 1 0 " + name + " = -1;");
        }
        Script.run("19 the first step recalls the leases on all names",
            all.toString(), "beginMove 0 0 1 = ok; stepMove = 1; recalls 1 = 50; leases 1 = 0");
    }

    private static void stepMoveThrows() {
        Script.run("19 stepMove throws IllegalStateException if no move goes on",
            "stepMove = ISE; beginMove 0 0 0 = ISE; stepMove = ISE; beginMove 0 0 1 = ok",
            "giveUpMove = 0; stepMove = ISE; beginMove 0 0 1 = ok; stepMove = 1",
            "giveUpMove = 1; stepMove = ISE; beginMove 0 0 1 = ok; stepMove = 1; stepMove = 2",
            "stepMove = ISE; balance = -1; stepMove = ISE");
    }

    private static void giveUpMove() {
        Script.run("20 giveUpMove answers how many steps were done, 0 or 1",
            "beginMove 0 0 1 = ok; giveUpMove = 0; beginMove 0 0 1 = ok; stepMove = 1",
            "giveUpMove = 1; beginMove 0 0 2 = ok; giveUpMove = 0");
        Script.run("20 the fragment of a move that is given up stays with its owner",
            "makeDirectory 0 0 0 = 1; beginMove 1 0 1 = ok; giveUpMove = 0; ownerOf 1 0 = -1",
            "isFrozen 1 0 = false; makeFile 0 1 0 = 0; beginMove 1 0 1 = ok; stepMove = 1",
            "giveUpMove = 1; ownerOf 1 0 = -1; serverOf 1 0 = 0; isFrozen 1 0 = false",
            "remove 0 1 0 = 0; remove 0 0 0 = -3; beginMove 0 0 3 = ok; stepMove = 1",
            "giveUpMove = 1; ownerOf 0 0 = 0");
        Script.run("20 giveUpMove throws IllegalStateException if no move goes on",
            "giveUpMove = ISE; beginMove 0 0 0 = ISE; giveUpMove = ISE; beginMove 0 0 1 = ok",
            "giveUpMove = 0; giveUpMove = ISE; beginMove 0 0 1 = ok; stepMove = 1; stepMove = 2",
            "giveUpMove = ISE; ownerOf 0 0 = 1");
    }

    private static void isFrozen() {
        Script.run("21 a fragment that moves is frozen until its move is over",
            "split 0 0 = 2;", Script.frozen(0, "........"), "beginMove 0 0 1 = ok;",
            Script.frozen(0, "****...."), "stepMove = 1;", Script.frozen(0, "****...."),
            "stepMove = 2;", Script.frozen(0, "........"), "beginMove 0 5 2 = ok;",
            Script.frozen(0, "....****"), "giveUpMove = 0;", Script.frozen(0, "........"));
        Script.run("21 what inherits from a frozen fragment is frozen, what has an owner is not",
            "makeDirectory 0 0 0 = 1; makeDirectory 0 0 2 = 2; makeDirectory 0 1 0 = 3",
            "makeDirectory 0 3 0 = 4;", Script.move(3, 0, 2), "split 0 0 = 2",
            "isFrozen 0 0 = false; beginMove 0 0 1 = ok; isFrozen 0 0 = true",
            "isFrozen 0 2 = false; isFrozen 1 0 = true; isFrozen 1 49 = true",
            "isFrozen 2 0 = false; isFrozen 3 0 = false; isFrozen 4 0 = false; stepMove = 1",
            "isFrozen 1 0 = true; stepMove = 2; isFrozen 1 0 = false; isFrozen 0 0 = false",
            "beginMove 3 0 0 = ok; isFrozen 4 7 = true; isFrozen 1 0 = false; giveUpMove = 0",
            "isFrozen 4 7 = false");
        Script.run("21 what inherits through all directories is frozen too",
            Script.chain(11, 0), "beginMove 0 0 1 = ok; isFrozen 11 49 = true; giveUpMove = 0",
            "beginMove 5 0 1 = ok; isFrozen 11 0 = true; isFrozen 4 0 = false");
        Script.run("21 frozen names are looked up, and load the server that they have",
            "makeFile 0 0 0 = 0; beginMove 0 0 1 = ok; lookup 0 0 0 = 0; load 0 = 2",
            "lookup 0 0 0 = 0; known 0 = 1; leases 0 = 1; stepMove = 1; leases 0 = 0",
            "lookup 0 0 0 = 0; load 0 = 3; leases 0 = 1; stepMove = 2; load 1 = 3",
            "lookup 0 0 0 = 0; known 0 = 2");
    }

    private static void frozenByHash() {
        for (int hash = 0; hash < 8; hash++) {
            StringBuilder rows = new StringBuilder(Script.eight(0));
            rows.append("beginMove 0 " + hash + " 1 = ok;");
            for (int name = 0; name < 50; name++) {
                rows.append("isFrozen 0 " + name + " = " + ((5 * name + 3) % 8 == hash) + ";");
            }
            Script.run("21 the hash of a name n is the remainder of 5 * n + 3 by 8",
                rows.toString());
        }
    }

    private static void isFrozenThrows() {
        Script.range("21 isFrozen throws IllegalArgumentException if name is out of range",
            "", "isFrozen 0 #", 0, 49, "IAE");
        Script.noSuchDirectory(
            "21 isFrozen throws IndexOutOfBoundsException if there is no such directory",
            "", "isFrozen # 0");
        Script.run("21 of several exceptions isFrozen throws the first one",
            "isFrozen 1 50 = IAE; isFrozen -1 -1 = IAE; isFrozen 12 50 = IAE");
    }
}

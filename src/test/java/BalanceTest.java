/**
 * Promise 22: balance. In most runs the root has eight fragments of size 1, so that each hash has
 * a load of its own.
 */
public final class BalanceTest {
    public static void main(String[] args) {
        difference();
        half();
        greatest();
        leastLoad();
        lowestServers();
        lowestFragments();
        begins();
        halving();
        throwing();
        Script.end();
    }

    /** Hashes 0 to 3 belong to the servers 0 to 3, hash 4 to server 0 too. */
    private static String servers() {
        return Script.eight(0) + Script.move(0, 1, 1) + Script.move(0, 2, 2)
            + Script.move(0, 3, 3);
    }

    private static void difference() {
        Script.run("22 a has 3 more than b, which has none: no move begins",
            Script.eight(0), Script.asked(0, 0, 1), Script.asked(0, 1, 2), "load 0 = 3",
            "balance = -1;", Script.frozen(0, "........"), "stepMove = ISE");
        Script.run("22 a has 4 more than b, which has none: a move begins",
            Script.eight(0), Script.asked(0, 0, 2), Script.asked(0, 1, 2), "load 0 = 4",
            "balance = 0;", Script.frozen(0, "*......."), "stepMove = 1; stepMove = 2");
        Script.run("22 a has 3 more than b, which has some: no move begins",
            servers(), Script.asked(0, 0, 4), Script.asked(0, 1, 2), Script.asked(0, 2, 2),
            Script.asked(0, 3, 2), Script.asked(0, 4, 1), Script.loads(5, 2, 2, 2),
            "balance = -1;", Script.frozen(0, "........"));
        Script.run("22 a has 4 more than b, which has some: a move begins",
            servers(), Script.asked(0, 0, 4), Script.asked(0, 1, 2), Script.asked(0, 2, 2),
            Script.asked(0, 3, 2), Script.asked(0, 4, 2), Script.loads(6, 2, 2, 2),
            "balance = 0;", Script.frozen(0, "....*..."));
    }

    private static void half() {
        Script.run("22 a fragment with just half of what a has more moves",
            Script.eight(0), Script.asked(0, 0, 2), Script.asked(0, 1, 3), Script.asked(0, 2, 1),
            "load 0 = 6; balance = 0;", Script.frozen(0, ".*......"));
        Script.run("22 a fragment with 1 more than half of what a has more does not move",
            Script.eight(0), Script.asked(0, 0, 1), Script.asked(0, 1, 4), Script.asked(0, 2, 1),
            "load 0 = 6; balance = 0;", Script.frozen(0, "*......."));
        Script.run("22 half of a difference of 5 is rounded down to 2",
            Script.eight(0), Script.asked(0, 0, 3), Script.asked(0, 1, 2),
            "load 0 = 5; balance = 0;", Script.frozen(0, ".*......"));
        Script.run("22 half of a difference of 7 is rounded down to 3",
            Script.eight(0), Script.asked(0, 0, 4), Script.asked(0, 1, 3),
            "load 0 = 7; balance = 0;", Script.frozen(0, ".*......"));
        Script.run("22 half of what a has more than b, not half of what a has",
            servers(), Script.asked(0, 0, 3), Script.asked(0, 1, 2), Script.asked(0, 2, 2),
            Script.asked(0, 3, 2), Script.asked(0, 4, 1), Script.asked(0, 5, 2),
            Script.loads(6, 2, 2, 2), "balance = 0;", Script.frozen(0, ".....*.."));
    }

    private static void greatest() {
        Script.run("22 of the fragments that may move it is that with the greatest load",
            Script.eight(0), Script.asked(0, 0, 1), Script.asked(0, 1, 2), Script.asked(0, 2, 4),
            Script.asked(0, 3, 3), Script.asked(0, 4, 1), "load 0 = 11; balance = 0;",
            Script.frozen(0, "..*....."));
        Script.run("22 a fragment of another server does not move",
            Script.eight(0), Script.move(0, 5, 2), Script.move(0, 6, 2), Script.asked(0, 0, 2),
            Script.asked(0, 5, 2), Script.asked(0, 6, 3), Script.loads(2, 0, 5, 0), "balance = 0;",
            Script.frozen(0, ".....*.."), "stepMove = 1; stepMove = 2; ownerOf 0 5 = 1");
        Script.run("22 a fragment that inherits its server a may move",
            "makeDirectory 0 0 0 = 1;", Script.asked(0, 0, 2), Script.asked(1, 0, 2),
            "load 0 = 5; balance = 1;", Script.frozen(1, "********"), Script.frozen(0, "........"));
        Script.run("22 a fragment that inherits another server does not move",
            "makeDirectory 0 0 0 = 1; makeDirectory 0 1 0 = 2; makeDirectory 0 0 1 = 3;",
            Script.move(1, 0, 1), Script.asked(2, 0, 2), Script.asked(0, 7, 2),
            Script.asked(3, 0, 2), Script.loads(6, 3, 0, 0), "balance = 3;",
            Script.frozen(3, "********"), Script.frozen(2, "........"));
    }

    private static void leastLoad() {
        Script.run("22 a fragment with a load of 1 moves",
            Script.eight(0), Script.asked(0, 0, 4), Script.asked(0, 1, 1),
            "load 0 = 5; balance = 0;", Script.frozen(0, ".*......"));
        Script.run("22 a fragment with a load of 0 does not move",
            Script.eight(0), Script.asked(0, 0, 4), "load 0 = 4; balance = -1;",
            Script.frozen(0, "........"), "load 0 = 2");
        Script.run("22 balance answers -1 if each fragment has too much",
            Script.asked(0, 0, 4), Script.asked(0, 1, 1), "load 0 = 5; balance = -1",
            "isFrozen 0 0 = false; load 0 = 2; stepMove = ISE");
        Script.run("22 balance answers -1 without any load",
            "balance = -1; isFrozen 0 0 = false;", Script.loads(0, 0, 0, 0));
    }

    private static void lowestServers() {
        Script.run("22 a is the server with the greatest load, b that with the least one",
            servers(), Script.asked(0, 0, 2), Script.asked(0, 1, 1), Script.asked(0, 3, 1),
            Script.move(0, 5, 2), Script.asked(0, 2, 3), Script.asked(0, 5, 2), "lookup 0 0 11 = -1",
            "pass 10 = 10;", Script.asked(0, 3, 1), Script.loads(2, 1, 6, 2), "balance = 0;",
            Script.frozen(0, ".....*.."), "stepMove = 1; stepMove = 2; ownerOf 0 5 = 1");
        Script.run("22 of several servers with the greatest load a is the lowest",
            Script.eight(0), Script.move(0, 0, 1), Script.move(0, 2, 1), Script.move(0, 4, 2),
            Script.move(0, 6, 2), Script.asked(0, 0, 2), Script.asked(0, 2, 2),
            Script.asked(0, 4, 2), Script.asked(0, 6, 2), Script.loads(0, 4, 4, 0), "balance = 0;",
            Script.frozen(0, "*......."), "stepMove = 1; stepMove = 2; ownerOf 0 0 = 0;",
            Script.loads(1, 1, 2, 0));
        Script.run("22 of several servers with the least load b is the lowest",
            Script.eight(0), Script.asked(0, 0, 2), Script.asked(0, 1, 2), "balance = 0",
            "stepMove = 1; stepMove = 2; ownerOf 0 0 = 1;", Script.loads(1, 1, 0, 0));
        Script.run("22 the last server may be that with the least load",
            servers(), Script.asked(0, 0, 4), Script.asked(0, 4, 1), Script.asked(0, 1, 1),
            Script.asked(0, 2, 1), "balance = 0; stepMove = 1; stepMove = 2; ownerOf 0 4 = 3");
        Script.run("22 the last server may be that with the greatest load",
            servers(), Script.move(0, 7, 3), Script.asked(0, 3, 3), Script.asked(0, 7, 2),
            "balance = 0;", Script.frozen(0, ".......*"), "stepMove = 1; stepMove = 2",
            "ownerOf 0 7 = 0");
    }

    private static void lowestFragments() {
        Script.run("22 of several fragments it is that of the lowest directory",
            "makeDirectory 0 0 0 = 1; makeDirectory 0 0 1 = 2; lookup 0 1 0 = -1",
            "lookup 0 1 1 = -1; lookup 0 1 2 = -1; lookup 0 2 0 = -1; lookup 0 2 1 = -1",
            "lookup 0 2 2 = -1; load 0 = 8; balance = 1; isFrozen 1 0 = true; isFrozen 2 0 = false",
            "load 0 = 3");
        Script.run("22 the lowest directory goes ahead of the lowest beginning",
            "makeDirectory 0 0 0 = 1; makeDirectory 0 0 1 = 2; split 1 0 = 2;",
            Script.asked(0, 7, 3), Script.asked(1, 7, 2), Script.asked(2, 0, 2),
            "load 0 = 9; balance = 1;", Script.frozen(1, "....****"), "isFrozen 2 0 = false");
        Script.run("22 of several fragments of a directory it is that with the lowest beginning",
            Script.eight(0), Script.asked(0, 2, 2), Script.asked(0, 5, 2), Script.asked(0, 7, 2),
            "load 0 = 6; balance = 0;", Script.frozen(0, "..*....."));
        Script.run("22 halves with like loads: the first one moves",
            "lookup 0 0 0 = -1; lookup 0 0 1 = -1; lookup 0 0 2 = -1; lookup 0 0 3 = -1",
            "split 0 0 = 2; balance = 0;", Script.frozen(0, "****...."), "stepMove = 1",
            "stepMove = 2;", Script.owners(0, "11110000"), Script.loads(1, 1, 0, 0));
    }

    private static void begins() {
        Script.run("22 balance answers the directory whose fragment begins to move",
            Script.chain(11, 0), Script.asked(11, 0, 3), "load 0 = 14; balance = 11;",
            Script.frozen(11, "********"), "isFrozen 10 0 = false; stepMove = 1; stepMove = 2",
            "ownerOf 11 0 = 1");
        Script.run("22 the move begins with no step done, and recalls nothing",
            Script.eight(0), Script.asked(0, 0, 2), Script.asked(0, 1, 2), "balance = 0",
            "recalls 0 = 0; leases 0 = 2; makeFile 0 0 1 = ISE; stepMove = 1; recalls 0 = 1",
            "leases 0 = 1; giveUpMove = 1; ownerOf 0 0 = 0; balance = -1;",
            Script.asked(0, 2, 2), Script.asked(0, 4, 2), "balance = 0; giveUpMove = 0");
    }

    private static void halving() {
        Script.run("22 all loads are halved, rounded down, when no move begins",
            servers(), Script.asked(0, 0, 4), Script.asked(0, 1, 3), Script.asked(0, 2, 2),
            Script.asked(0, 3, 1), Script.loads(4, 3, 2, 1), "balance = -1;",
            Script.loads(2, 1, 1, 0), "balance = -1;", Script.loads(1, 0, 0, 0), "balance = -1;",
            Script.loads(0, 0, 0, 0), "balance = -1;", Script.loads(0, 0, 0, 0));
        Script.run("22 all loads are halved, rounded down, when a move begins",
            servers(), Script.asked(0, 0, 4), Script.asked(0, 4, 3), Script.asked(0, 1, 3),
            Script.asked(0, 2, 2), Script.asked(0, 3, 1), Script.loads(7, 3, 2, 1), "balance = 0;",
            Script.frozen(0, "....*..."), Script.loads(3, 1, 1, 0), "stepMove = 1; stepMove = 2;",
            Script.loads(2, 1, 1, 1));
        Script.run("22 each fragment's load is halved, not their sum",
            "makeDirectory 0 0 0 = 1; makeDirectory 0 1 0 = 2; lookup 0 2 0 = -1; load 0 = 3",
            "balance = -1; load 0 = 0");
        Script.run("22 the loads of all fragments of all directories are halved",
            Script.chain(11, 0), Script.eight(11), Script.asked(11, 7, 3), "load 0 = 14",
            "balance = 11; load 0 = 1");
    }

    private static void throwing() {
        Script.run("22 balance throws IllegalStateException if a move goes on",
            Script.asked(0, 0, 2), "beginMove 0 0 1 = ok; balance = ISE; stepMove = 1",
            "balance = ISE; giveUpMove = 1; balance = -1; load 0 = 1;", Script.move(0, 0, 1),
            "balance = -1; load 1 = 0");
        Script.run("22 a balance that throws halves nothing and begins nothing",
            Script.eight(0), Script.asked(0, 0, 2), Script.asked(0, 1, 2), "beginMove 0 7 1 = ok",
            "balance = ISE; load 0 = 4;", Script.frozen(0, ".......*"), "stepMove = 1",
            "balance = ISE; load 0 = 4;", Script.frozen(0, ".......*"), "giveUpMove = 1",
            Script.frozen(0, "........"));
    }
}

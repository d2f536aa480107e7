/**
 * Promises 12 to 22: fragments and servers. The hashes of the names 0 to 7 are
 * 3, 0, 5, 2, 7, 4, 1, 6.
 */
public final class FragmentCallsTest {
    private static final String A = "throws.IllegalArgumentException";
    private static final String I = "throws.IndexOutOfBoundsException";
    private static final String S = "throws.IllegalStateException";

    public static void main(String[] args) {
        split();
        merge();
        fragments();
        serverOf();
        ownerOf();
        load();
        beginMove();
        stepMove();
        giveUpMove();
        isFrozen();
        balance();
        balanceTies();
        Script.end();
    }

    private static void split() {
        Script.run("12 split halves down to size 1",
            "split 0 7 = 2; split 0 7 = 3; split 0 7 = 4; split 0 7 = " + S,
            "split 0 6 = " + S + "; split 0 5 = 5; split 0 4 = " + S + "; split 0 0 = 6",
            "split 0 1 = 7; split 0 2 = 8; split 0 3 = " + S + "; split 0 0 = " + S);
        Script.run("12 the first half gets half of the load, rounded up",
            "lookup 0 0 0 = -1; lookup 0 0 1 = -1; lookup 0 0 2 = -1; lookup 0 0 3 = -1",
            "lookup 0 0 4 = -1; split 0 0 = 2; beginMove 0 7 1 = ok; stepMove = 1; stepMove = 2",
            "load 0 = 3; load 1 = 2; split 0 0 = 3; beginMove 0 1 2 = ok; stepMove = 1",
            "stepMove = 2; load 0 = 1; load 2 = 2; load 1 = 2");
        Script.run("12 both halves have the owner",
            "makeDirectory 0 0 0 = 1; split 1 0 = 2; ownerOf 1 0 = -1; ownerOf 1 4 = -1",
            "beginMove 1 4 3 = ok; stepMove = 1; stepMove = 2; split 1 6 = 3; ownerOf 1 4 = 3",
            "ownerOf 1 6 = 3; ownerOf 1 3 = -1; serverOf 1 2 = 3; serverOf 1 0 = 0");
        Script.run("12 split throws, the first one of its clause",
            "split 0 -1 = " + A + "; split 0 8 = " + A + "; split 1 0 = " + I,
            "split -1 0 = " + I + "; split 1 8 = " + A + "; fragments 0 = 1",
            "makeDirectory 0 0 0 = 1; beginMove 0 0 1 = ok; split 0 0 = " + S,
            "split 1 0 = " + S + "; stepMove = 1; split 0 0 = " + S + "; giveUpMove = 1",
            "split 1 0 = 2; beginMove 1 0 1 = ok; split 1 3 = " + S + "; split 1 4 = 3",
            "split 0 0 = 2");
    }

    private static void merge() {
        Script.run("13 merge joins what split parted",
            "split 0 0 = 2; split 0 0 = 3; split 0 2 = 4; merge 0 0 = " + S + "; merge 0 4 = " + S,
            "merge 0 3 = 3; merge 0 7 = " + S + "; merge 0 2 = 2; merge 0 7 = 1; merge 0 0 = " + S,
            "split 0 3 = 2; merge 0 0 = 1");
        Script.run("13 halves are those that begin at a multiple of twice the size",
            "split 0 0 = 2; split 0 0 = 3; split 0 4 = 4; merge 0 2 = 3; split 0 0 = 4",
            "merge 0 5 = 3; fragments 0 = 3; merge 0 4 = " + S + "; merge 0 1 = 2; merge 0 4 = 1");
        Script.run("13 the load of the merged one is that of both",
            "lookup 0 0 0 = -1; lookup 0 0 1 = -1; lookup 0 0 2 = -1; split 0 0 = 2",
            "lookup 0 0 4 = -1; merge 0 7 = 1; load 0 = 4; split 0 0 = 2",
            "beginMove 0 4 1 = ok; stepMove = 1; stepMove = 2; load 0 = 2; load 1 = 2");
        Script.run("13 unlike owners, though the server is the same one",
            "makeDirectory 0 0 0 = 1; split 1 0 = 2; beginMove 1 0 1 = ok; stepMove = 1",
            "stepMove = 2; merge 1 0 = " + S + "; merge 1 7 = " + S + "; beginMove 1 0 0 = ok",
            "stepMove = 1; stepMove = 2; serverOf 1 0 = 0; serverOf 1 1 = 0; ownerOf 1 4 = -1",
            "merge 1 0 = " + S + "; merge 1 4 = " + S + "; beginMove 1 4 1 = ok; stepMove = 1",
            "stepMove = 2; beginMove 1 4 0 = ok; stepMove = 1; stepMove = 2; merge 1 4 = 1",
            "ownerOf 1 7 = 0");
        Script.run("13 merge throws, the first one of its clause",
            "merge 0 -1 = " + A + "; merge 0 8 = " + A + "; merge 1 0 = " + I,
            "merge -1 0 = " + I + "; merge 1 8 = " + A + "; merge 0 0 = " + S,
            "split 0 0 = 2; beginMove 0 0 1 = ok; merge 0 0 = " + S + "; merge 0 4 = " + S,
            "giveUpMove = 0; beginMove 0 4 1 = ok; merge 0 0 = " + S + "; merge 0 4 = " + S,
            "stepMove = 1; merge 0 0 = " + S + "; giveUpMove = 1; merge 0 0 = 1");
        Script.run("13 halves that inherit from a frozen one",
            "makeDirectory 0 0 0 = 1; split 1 0 = 2; beginMove 0 0 2 = ok; merge 1 0 = " + S,
            "giveUpMove = 0; merge 1 0 = 1");
    }

    private static void fragments() {
        Script.run("14 fragments",
            "fragments 0 = 1; split 0 0 = 2; fragments 0 = 2; makeDirectory 0 0 0 = 1",
            "fragments 1 = 1; split 1 0 = 2; split 1 0 = 3; fragments 1 = 3; fragments 0 = 2",
            "merge 1 0 = 2; fragments 1 = 2; fragments 2 = " + I + "; fragments -1 = " + I,
            "remove 0 0 0 = -3; fragments 1 = " + I + "; fragments 12 = " + I,
            "fragments 2147483647 = " + I + "; fragments -2147483648 = " + I);
    }

    private static void serverOf() {
        Script.run("15 the server is inherited by the name of the directory",
            "makeDirectory 0 0 2 = 1; makeDirectory 0 0 1 = 2; makeDirectory 0 1 0 = 3",
            "split 0 0 = 2; beginMove 0 4 3 = ok; stepMove = 1; stepMove = 2",
            "serverOf 0 2 = 3; serverOf 0 1 = 0; serverOf 1 0 = 3; serverOf 1 49 = 3",
            "serverOf 2 0 = 0; serverOf 3 0 = 3; beginMove 1 0 1 = ok; stepMove = 1",
            "serverOf 3 0 = 3; stepMove = 2; serverOf 3 0 = 1; serverOf 1 7 = 1; serverOf 2 7 = 0");
        Script.run("15 names of one hash have one server, and hashes are 5 n + 3 by 8",
            "split 0 0 = 2; split 0 0 = 3; split 0 0 = 4; beginMove 0 0 1 = ok; stepMove = 1",
            "stepMove = 2; serverOf 0 1 = 1; serverOf 0 9 = 1; serverOf 0 49 = 1; serverOf 0 41 = 1",
            "serverOf 0 0 = 0; serverOf 0 6 = 0; serverOf 0 48 = 0; serverOf 0 5 = 0");
        Script.run("15 serverOf throws, the first one of its clause",
            "serverOf 0 -1 = " + A + "; serverOf 0 50 = " + A + "; serverOf 1 0 = " + I,
            "serverOf -1 0 = " + I + "; serverOf 1 50 = " + A + "; load 0 = 0");
    }

    private static void ownerOf() {
        Script.run("16 ownerOf",
            "makeDirectory 0 0 0 = 1; ownerOf 0 0 = 0; ownerOf 1 0 = -1; split 1 0 = 2",
            "beginMove 1 3 2 = ok; ownerOf 1 3 = -1; stepMove = 1; ownerOf 1 3 = -1",
            "stepMove = 2; ownerOf 1 0 = 2; ownerOf 1 3 = 2; ownerOf 1 4 = -1; ownerOf 1 7 = -1",
            "ownerOf 1 8 = " + A + "; ownerOf 1 -1 = " + A + "; ownerOf 2 0 = " + I,
            "ownerOf -1 0 = " + I + "; ownerOf 2 8 = " + A);
    }

    private static void load() {
        Script.run("17 loads grow by each name asked for or changed",
            "lookup 0 0 0 = -1; load 0 = 1; lookup 0 0 0 = -1; load 0 = 1; lookup 1 0 0 = -1",
            "load 0 = 2; makeFile 0 0 0 = 0; load 0 = 3; link 0 0 1 0 = 2; load 0 = 4",
            "makeDirectory 0 0 2 = 1; load 0 = 5; rename 0 0 0 0 3 = ok; load 0 = 7",
            "remove 0 0 3 = 0; load 0 = 8; byTree 0 1 = 0; serverOf 0 1 = 0; isFrozen 0 1 = false",
            "split 0 0 = 2; merge 0 0 = 1; links 0 = 1; anchor 0 = 1; size 0 = 2; load 0 = 8",
            "load 4 = " + A + "; load -1 = " + A);
        Script.run("17 loads go with the server of a fragment",
            "makeDirectory 0 0 0 = 1; makeDirectory 0 1 0 = 2; lookup 0 2 0 = -1; load 0 = 3",
            "beginMove 1 0 3 = ok; load 3 = 0; stepMove = 1; load 3 = 0; stepMove = 2",
            "load 0 = 1; load 3 = 2; beginMove 2 0 1 = ok; lookup 1 2 0 = -1; load 3 = 3",
            "stepMove = 1; stepMove = 2; load 3 = 1; load 1 = 2; load 0 = 1; load 2 = 0");
    }

    private static void beginMove() {
        Script.run("18 beginMove",
            "beginMove 0 7 0 = " + S + "; beginMove 0 7 1 = ok; beginMove 0 7 2 = " + S,
            "beginMove 0 0 0 = " + S + "; giveUpMove = 0; beginMove 0 0 2 = ok; stepMove = 1",
            "beginMove 0 0 1 = " + S + "; stepMove = 2; beginMove 0 0 2 = " + S,
            "beginMove 0 0 0 = ok; stepMove = 1; stepMove = 2; ownerOf 0 0 = 0");
        Script.run("18 the server of the fragment may be an inherited one",
            "makeDirectory 0 0 0 = 1; beginMove 1 0 0 = " + S + "; beginMove 1 0 1 = ok",
            "stepMove = 1; stepMove = 2; beginMove 1 0 1 = " + S + "; beginMove 1 0 0 = ok",
            "stepMove = 1; stepMove = 2; ownerOf 1 0 = 0");
        Script.run("18 the fragment that has the hash moves",
            "split 0 0 = 2; split 0 4 = 3; beginMove 0 5 2 = ok; stepMove = 1; stepMove = 2",
            "ownerOf 0 3 = 0; ownerOf 0 4 = 2; ownerOf 0 5 = 2; ownerOf 0 6 = 0; ownerOf 0 7 = 0");
        Script.run("18 beginMove throws, the first one of its clause",
            "beginMove 0 8 1 = " + A + "; beginMove 0 -1 1 = " + A + "; beginMove 0 0 4 = " + A,
            "beginMove 0 0 -1 = " + A + "; beginMove 1 0 1 = " + I + "; beginMove -1 0 1 = " + I,
            "beginMove 1 8 1 = " + A + "; beginMove 1 0 4 = " + A + "; stepMove = " + S,
            "beginMove 0 0 1 = ok; beginMove 0 0 4 = " + A + "; beginMove 1 0 2 = " + I,
            "beginMove 0 8 2 = " + A + "; stepMove = 1; stepMove = 2; ownerOf 0 0 = 1");
    }

    private static void stepMove() {
        Script.run("19 the first step recalls, the second one makes the owner",
            "makeDirectory 0 0 0 = 1; makeDirectory 0 1 0 = 2; lookup 0 1 0 = -4",
            "lookup 0 2 49 = -1; lookup 1 2 49 = -1; lookup 2 0 0 = -3; lookup 3 2 5 = -1",
            "pass 9 = 9; lookup 2 1 3 = -1; pass 1 = 10; lookup 1 2 49 = -1",
            "beginMove 1 0 2 = ok; recalls 1 = 0; leases 1 = 1; stepMove = 1",
            "recalls 0 = 0; recalls 1 = 1; recalls 2 = 1; recalls 3 = 0; leases 1 = 0",
            "leases 2 = 0; serverOf 2 0 = 0; ownerOf 1 0 = -1; lookup 1 2 49 = -1; known 1 = 0",
            "stepMove = 2; ownerOf 1 0 = 2; ownerOf 2 0 = -1; serverOf 2 0 = 2; leases 1 = 1",
            "recalls 1 = 1; isFrozen 1 0 = false; stepMove = " + S);
        Script.run("19 leases out of frozen fragments stay",
            "split 0 0 = 2; makeDirectory 0 0 1 = 1; makeDirectory 0 1 1 = 2",
            "beginMove 2 0 3 = ok; stepMove = 1; stepMove = 2; lookup 0 0 0 = -1",
            "lookup 0 0 2 = -1; lookup 0 1 1 = -4; lookup 0 2 1 = -1; leases 0 = 4",
            "beginMove 0 0 1 = ok; stepMove = 1; leases 0 = 2; recalls 0 = 2; stepMove = 2",
            "lookup 0 0 2 = -1; lookup 0 2 1 = -1; known 0 = 2; leases 0 = 2");
        Script.run("19 stepMove throws", "stepMove = " + S + "; beginMove 0 0 1 = ok",
            "giveUpMove = 0; stepMove = " + S + "; beginMove 0 0 1 = ok; stepMove = 1",
            "giveUpMove = 1; stepMove = " + S + "; beginMove 0 0 1 = ok; stepMove = 1; stepMove = 2");
    }

    private static void giveUpMove() {
        Script.run("20 giveUpMove",
            "giveUpMove = " + S + "; makeDirectory 0 0 0 = 1; beginMove 1 0 1 = ok",
            "giveUpMove = 0; ownerOf 1 0 = -1; isFrozen 1 0 = false; giveUpMove = " + S,
            "makeFile 0 1 0 = 0; beginMove 1 0 1 = ok; stepMove = 1; giveUpMove = 1",
            "ownerOf 1 0 = -1; isFrozen 1 0 = false; beginMove 1 0 2 = ok; giveUpMove = 0",
            "beginMove 1 0 2 = ok; stepMove = 1; stepMove = 2; giveUpMove = " + S,
            "ownerOf 1 0 = 2; remove 0 1 0 = 0; remove 0 0 0 = -3");
    }

    private static void isFrozen() {
        Script.run("21 what inherits from a frozen fragment is frozen",
            "makeDirectory 0 0 0 = 1; makeDirectory 0 0 2 = 2; makeDirectory 0 1 0 = 3",
            "makeDirectory 0 3 0 = 4; beginMove 3 0 2 = ok; stepMove = 1; stepMove = 2",
            "split 0 0 = 2; isFrozen 0 0 = false; beginMove 0 0 1 = ok; isFrozen 0 0 = true",
            "isFrozen 0 2 = false; isFrozen 1 0 = true; isFrozen 1 49 = true",
            "isFrozen 2 0 = false; isFrozen 3 0 = false; isFrozen 4 0 = false; stepMove = 1",
            "isFrozen 1 0 = true; stepMove = 2; isFrozen 1 0 = false; isFrozen 0 0 = false",
            "beginMove 3 0 0 = ok; isFrozen 4 7 = true; isFrozen 1 0 = false; giveUpMove = 0",
            "isFrozen 4 7 = false");
        Script.run("21 frozen names are looked up, and load the server that they have",
            "makeFile 0 0 0 = 0; beginMove 0 0 1 = ok; lookup 0 0 0 = 0; load 0 = 2",
            "lookup 0 0 0 = 0; known 0 = 1; leases 0 = 1; stepMove = 1; leases 0 = 0",
            "lookup 0 0 0 = 0; load 0 = 3; leases 0 = 1; stepMove = 2; load 1 = 3",
            "lookup 0 0 0 = 0; known 0 = 2");
        Script.run("21 isFrozen throws, the first one of its clause",
            "isFrozen 0 50 = " + A + "; isFrozen 0 -1 = " + A + "; isFrozen 1 0 = " + I,
            "isFrozen -1 0 = " + I + "; isFrozen 1 50 = " + A);
    }

    private static void balance() {
        Script.run("22 balance takes a difference of 4, not of 3",
            "makeDirectory 0 0 0 = 1; lookup 0 1 0 = -1; lookup 0 1 1 = -1; load 0 = 3",
            "balance = -1; load 0 = 1; stepMove = " + S);
        Script.run("22 balance begins a move of at most half of the difference",
            "makeDirectory 0 0 0 = 1; lookup 0 1 0 = -1; lookup 0 1 1 = -1; lookup 0 0 0 = -3",
            "load 0 = 4; balance = 0; load 0 = 2; isFrozen 0 0 = true; isFrozen 1 0 = true",
            "balance = " + S + "; load 0 = 2; stepMove = 1; stepMove = 2; ownerOf 0 0 = 1");
        Script.run("22 half of the difference is rounded down",
            "makeDirectory 0 0 0 = 1; lookup 0 1 0 = -1; lookup 0 1 1 = -1; lookup 0 1 2 = -1",
            "lookup 0 0 0 = -3; load 0 = 5; balance = 0; giveUpMove = 0; load 0 = 2");
        Script.run("22 the greatest load that is at most half moves",
            "makeDirectory 0 0 0 = 1; makeDirectory 0 0 1 = 2; lookup 0 2 0 = -1",
            "lookup 0 1 0 = -1; lookup 0 1 1 = -1; lookup 0 1 2 = -1; lookup 0 0 0 = -3",
            "lookup 0 0 1 = -4; load 0 = 8; balance = 0; giveUpMove = 0; load 0 = 3");
        Script.run("22 none begins if each fragment has too much, loads are halved all the same",
            "lookup 0 0 0 = -1; lookup 0 0 1 = -1; lookup 0 0 2 = -1; lookup 0 0 3 = -1",
            "lookup 0 0 4 = -1; load 0 = 5; balance = -1; load 0 = 2; balance = -1; load 0 = 1",
            "balance = -1; load 0 = 0; balance = -1; load 0 = 0; isFrozen 0 0 = false");
        Script.run("22 each fragment's load is halved, not their sum",
            "makeDirectory 0 0 0 = 1; makeDirectory 0 1 0 = 2; lookup 0 2 0 = -1; load 0 = 3",
            "balance = -1; load 0 = 0");
        Script.run("22 a load of 1 is enough to move",
            "split 0 0 = 2; lookup 0 0 0 = -1; lookup 1 0 0 = -1; lookup 2 0 0 = -1",
            "lookup 3 0 0 = -1; lookup 0 0 2 = -1; load 0 = 5; balance = 0; isFrozen 0 2 = true",
            "isFrozen 0 0 = false; load 0 = 2");
        Script.run("22 a load of 0 is not",
            "split 0 0 = 2; lookup 0 0 0 = -1; lookup 1 0 0 = -1; lookup 2 0 0 = -1",
            "lookup 3 0 0 = -1; load 0 = 4; balance = -1; isFrozen 0 2 = false; load 0 = 2");
        Script.run("22 balance throws while a move goes on",
            "lookup 0 0 0 = -1; lookup 0 0 1 = -1; beginMove 0 0 1 = ok; balance = " + S,
            "load 0 = 2; stepMove = 1; balance = " + S + "; load 0 = 2; giveUpMove = 1",
            "balance = -1; load 0 = 1");
    }

    private static void balanceTies() {
        Script.run("22 of several servers it is the lowest, of fragments the lowest beginning",
            "lookup 0 0 0 = -1; lookup 0 0 1 = -1; lookup 0 0 2 = -1; lookup 0 0 3 = -1",
            "split 0 0 = 2; balance = 0; isFrozen 0 0 = true; isFrozen 0 2 = false; stepMove = 1",
            "stepMove = 2; ownerOf 0 0 = 1; ownerOf 0 4 = 0; load 0 = 1; load 1 = 1");
        Script.run("22 of several fragments it is that of the lowest directory",
            "makeDirectory 0 0 0 = 1; makeDirectory 0 0 1 = 2; lookup 0 1 0 = -1",
            "lookup 0 1 1 = -1; lookup 0 1 2 = -1; lookup 0 2 0 = -1; lookup 0 2 1 = -1",
            "lookup 0 2 2 = -1; load 0 = 8; balance = 1; isFrozen 1 0 = true; isFrozen 2 0 = false",
            "load 0 = 3");
        Script.run("22 both servers with the greatest load: the lowest one gives",
            "split 0 0 = 2; split 0 0 = 3; split 0 4 = 4; beginMove 0 0 1 = ok; stepMove = 1",
            "stepMove = 2; beginMove 0 2 1 = ok; stepMove = 1; stepMove = 2; beginMove 0 6 2 = ok",
            "stepMove = 1; stepMove = 2; beginMove 0 4 2 = ok; stepMove = 1; stepMove = 2",
            "lookup 0 0 0 = -1; lookup 1 0 0 = -1; lookup 0 0 1 = -1; lookup 1 0 1 = -1",
            "lookup 0 0 4 = -1; lookup 1 0 4 = -1; lookup 0 0 5 = -1; lookup 1 0 5 = -1",
            "load 1 = 4; load 2 = 4; load 0 = 0; load 3 = 0; balance = 0; isFrozen 0 1 = true",
            "isFrozen 0 0 = false; isFrozen 0 4 = false; isFrozen 0 5 = false; stepMove = 1",
            "stepMove = 2; ownerOf 0 0 = 0; load 0 = 1; load 1 = 1; load 2 = 2; load 3 = 0");
        Script.run("22 the one with the least load may have some",
            "split 0 0 = 2; split 0 0 = 3; split 0 4 = 4; beginMove 0 2 1 = ok; stepMove = 1",
            "stepMove = 2; beginMove 0 4 2 = ok; stepMove = 1; stepMove = 2; beginMove 0 6 3 = ok",
            "stepMove = 1; stepMove = 2; lookup 0 0 3 = -1; lookup 0 0 0 = -1; lookup 0 0 2 = -1",
            "lookup 0 0 4 = -1; split 0 0 = 5; lookup 0 0 1 = -1; lookup 1 0 1 = -1",
            "lookup 2 0 1 = -1; lookup 0 0 6 = -1; lookup 1 0 6 = -1; load 0 = 5; load 1 = 2",
            "load 2 = 1; load 3 = 1; balance = 0; isFrozen 0 6 = true; stepMove = 1; stepMove = 2",
            "ownerOf 0 1 = 2; ownerOf 0 0 = 0; load 0 = 1; load 2 = 1; load 1 = 1; load 3 = 0");
    }
}

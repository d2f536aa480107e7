/** Promises 15 to 17: serverOf, ownerOf and load. */
public final class ServerTest {
    public static void main(String[] args) {
        serverOf();
        serverOfThrows();
        ownerOf();
        loadOfNames();
        loadOfServers();
        Script.end();
    }

    private static void serverOf() {
        Script.run("15 the server of a fragment is its owner",
            Script.eight(0), Script.move(0, 0, 1), Script.move(0, 5, 2), Script.move(0, 7, 3),
            "serverOf 0 1 = 1; serverOf 0 2 = 2; serverOf 0 4 = 3; serverOf 0 0 = 0");
        Script.run("15 without an owner the server is that of the name of the directory",
            "makeDirectory 0 0 2 = 1; makeDirectory 0 0 1 = 2; makeDirectory 0 1 0 = 3",
            "split 0 0 = 2;", Script.move(0, 4, 3), "serverOf 0 2 = 3; serverOf 0 1 = 0",
            "serverOf 1 0 = 3; serverOf 1 49 = 3; serverOf 2 0 = 0; serverOf 3 0 = 3",
            "beginMove 1 0 1 = ok; stepMove = 1; serverOf 3 0 = 3; stepMove = 2",
            "serverOf 3 0 = 1; serverOf 1 7 = 1; serverOf 2 7 = 0");
        Script.run("15 a server is inherited through all directories, down to the first owner",
            Script.chain(11, 0), "serverOf 11 49 = 0;", Script.move(0, 0, 1),
            "serverOf 11 49 = 1; serverOf 1 0 = 1;", Script.move(6, 0, 2), "serverOf 11 49 = 2",
            "serverOf 6 0 = 2; serverOf 5 0 = 1;", Script.move(11, 0, 3), "serverOf 11 49 = 3",
            "serverOf 10 0 = 2");
        Script.run("15 names of one hash have one server",
            "split 0 0 = 2; split 0 0 = 3; split 0 0 = 4;", Script.move(0, 0, 1),
            "serverOf 0 1 = 1; serverOf 0 9 = 1; serverOf 0 49 = 1; serverOf 0 41 = 1",
            "serverOf 0 0 = 0; serverOf 0 6 = 0; serverOf 0 48 = 0; serverOf 0 5 = 0");
    }

    private static void serverOfThrows() {
        Script.range("15 serverOf throws IllegalArgumentException if name is out of range",
            "", "serverOf 0 #", 0, 49, "IAE");
        Script.noSuchDirectory(
            "15 serverOf throws IndexOutOfBoundsException if there is no such directory",
            "", "serverOf # 0");
        Script.run("15 of several exceptions serverOf throws the first one",
            "serverOf 1 50 = IAE; serverOf -1 -1 = IAE; serverOf 12 50 = IAE");
    }

    private static void ownerOf() {
        Script.run("16 ownerOf answers the owner of the fragment that has the hash",
            "split 0 0 = 2; split 0 4 = 3;", Script.move(0, 0, 3), Script.move(0, 6, 2),
            Script.owners(0, "33330022"), Script.move(0, 5, 1), Script.owners(0, "33331122"));
        Script.run("16 ownerOf answers -1 if the fragment has no owner",
            "makeDirectory 0 0 0 = 1; split 1 0 = 2;", Script.owners(1, "--------"),
            "beginMove 1 3 2 = ok; ownerOf 1 3 = -1; stepMove = 1; ownerOf 1 3 = -1; stepMove = 2",
            Script.owners(1, "2222----"), "serverOf 1 2 = 0");
        Script.range("16 ownerOf throws IllegalArgumentException if hash is out of range",
            "", "ownerOf 0 #", 0, 7, "IAE");
        Script.noSuchDirectory(
            "16 ownerOf throws IndexOutOfBoundsException if there is no such directory",
            "", "ownerOf # 0");
        Script.run("16 of several exceptions ownerOf throws the first one",
            "ownerOf 1 8 = IAE; ownerOf -1 -1 = IAE; ownerOf 12 8 = IAE");
    }

    private static void loadOfNames() {
        Script.run("17 a load grows by 1 for each name for which a call asks the server",
            "lookup 0 0 0 = -1; load 0 = 1; lookup 0 0 0 = -1; load 0 = 1; lookup 1 0 0 = -1",
            "load 0 = 2; lookup 0 0 1 = -1; load 0 = 3; pass 10 = 10; lookup 0 0 0 = -1; load 0 = 4");
        Script.run("17 a load grows by 1 for each name which a call changes",
            "makeFile 0 0 0 = 0; load 0 = 1; link 0 0 1 0 = 2; load 0 = 2",
            "makeDirectory 0 0 2 = 1; load 0 = 3; rename 0 0 0 0 3 = ok; load 0 = 5",
            "remove 0 0 3 = 0; load 0 = 6; remove 0 0 2 = -3; load 0 = 7");
        Script.run("17 a change of a name on which there is a lease counts 1 too",
            "lookup 0 0 0 = -1; makeFile 0 0 0 = 0; load 0 = 2; lookup 1 0 0 = 0",
            "remove 0 0 0 = 0; load 0 = 4");
        Script.run("17 other calls add no load",
            "makeFile 0 0 1 = 0; byTree 0 1 = 0; serverOf 0 1 = 0; ownerOf 0 0 = 0; load 0 = 1",
            "isFrozen 0 1 = false; split 0 0 = 2; fragments 0 = 2; merge 0 0 = 1; links 0 = 1",
            "anchor 0 = 1; size 0 = 1; leases 0 = 0; recalls 0 = 0; known 0 = 0; pass 1 = 1",
            "beginMove 0 0 1 = ok; stepMove = 1; giveUpMove = 1; load 0 = 1");
        Script.run("17 a name counts in the fragment that has its hash",
            Script.eight(0), Script.move(0, 5, 1), Script.move(0, 7, 2), "lookup 0 0 2 = -1",
            "lookup 1 0 2 = -1; lookup 0 0 10 = -1; makeFile 0 0 4 = 0; lookup 0 0 0 = -1",
            Script.loads(1, 3, 1, 0));
    }

    private static void loadOfServers() {
        Script.run("17 the load of a server is the sum over the fragments whose server it is",
            "makeDirectory 0 0 0 = 1; makeDirectory 0 1 0 = 2; lookup 0 2 0 = -1; load 0 = 3",
            "beginMove 1 0 3 = ok; load 3 = 0; stepMove = 1; load 3 = 0; stepMove = 2",
            "load 0 = 1; load 3 = 2; beginMove 2 0 1 = ok; lookup 1 2 0 = -1; load 3 = 3",
            "stepMove = 1; stepMove = 2;", Script.loads(1, 2, 0, 1));
        Script.run("17 the load of a server counts all fragments of all directories",
            Script.chain(10, 0), "makeDirectory 0 10 1 = 11;", Script.eight(11),
            Script.asked(11, 0, 1), Script.asked(11, 3, 1), Script.asked(11, 7, 1),
            Script.move(11, 7, 2), Script.loads(13, 0, 1, 0));
        Script.range("17 load throws IllegalArgumentException if server is out of range",
            "", "load #", 0, 3, "IAE");
    }
}

/** Promise 1: a new object, and what the document says of an object as a whole. */
public final class NewObjectTest {
    public static void main(String[] args) {
        rootAlone();
        nothingYet();
        twoObjects();
        lastCall();
        Script.end();
    }

    private static void rootAlone() {
        Script.run("1 a new object has the root alone",
            "size 0 = 0; size 1 = IOOBE; size 11 = IOOBE; size 12 = IOOBE; size -1 = IOOBE",
            "byTree 0 0 = -1; byTree 0 49 = -1");
        Script.run("1 at first there is no file",
            "links 0 = IOOBE; anchor 0 = IOOBE; links 29 = IOOBE; anchor 29 = IOOBE");
        Script.run("1 the root has one fragment at first, of size 8, and its owner is server 0",
            "fragments 0 = 1; merge 0 0 = ISE;", Script.owners(0, "00000000"),
            "serverOf 0 0 = 0; serverOf 0 49 = 0; beginMove 0 7 1 = ok;",
            Script.frozen(0, "********"));
        Script.run("1 the root is always there",
            "makeDirectory 0 0 0 = 1; makeFile 0 1 0 = 0; rename 0 1 0 0 1 = ok",
            "remove 0 0 0 = -3; remove 0 0 1 = 0; size 0 = 0; byTree 0 0 = -1; byTree 0 1 = -1",
            "fragments 0 = 1; serverOf 0 0 = 0; makeDirectory 0 0 0 = 2; size 0 = 1");
    }

    private static void nothingYet() {
        Script.run("1 the time is 0 at first", "pass 1 = 1");
        Script.run("1 loads are 0 at first", Script.loads(0, 0, 0, 0));
        Script.run("1 no client has a lease, lost one, or knew a name at first",
            "leases 0 = 0; leases 1 = 0; leases 2 = 0; leases 3 = 0",
            "recalls 0 = 0; recalls 1 = 0; recalls 2 = 0; recalls 3 = 0",
            "known 0 = 0; known 1 = 0; known 2 = 0; known 3 = 0");
        Script.run("1 no move goes on at first",
            "stepMove = ISE; giveUpMove = ISE;", Script.frozen(0, "........"), "balance = -1");
    }

    private static void twoObjects() {
        String title = "1 two objects share nothing";
        DirectoryServers one = new DirectoryServers();
        DirectoryServers other = new DirectoryServers();
        Script.runOn(one, title, "makeFile 0 0 0 = 0; makeDirectory 0 0 1 = 1; split 0 0 = 2",
            "pass 7 = 7; lookup 1 0 0 = 0; lookup 1 0 0 = 0; beginMove 0 0 1 = ok; stepMove = 1");
        Script.runOn(other, title, "size 0 = 0; size 1 = IOOBE; links 0 = IOOBE; fragments 0 = 1",
            "pass 1 = 1; leases 1 = 0; recalls 1 = 0; known 1 = 0; load 0 = 0; stepMove = ISE",
            "makeFile 0 0 5 = 0; makeDirectory 0 0 6 = 1");
        Script.runOn(one, title, "size 0 = 2; fragments 0 = 2; pass 1 = 8; known 1 = 1; load 0 = 3");
    }

    private static void lastCall() {
        StringBuilder minutes = new StringBuilder();
        for (int time = 100; time <= 38400; time += 100) {
            minutes.append("pass 100 = " + time + ";");
        }
        StringBuilder splits = new StringBuilder();
        for (int directory = 0; directory < 12; directory++) {
            splits.append(Script.eight(directory));
        }
        String title = "1 the 512th call is answered as the first ones are";
        int calls = Script.runOn(new DirectoryServers(), title,
            Script.files(30), Script.chain(11, 30), splits.toString(), minutes.toString(),
            "lookup 3 11 49 = -1; lookup 3 11 49 = -1; known 3 = 1");
        Script.due(title + ", calls", "" + calls, "512");
    }
}

/** Promises 1 to 11: a new object, and the calls of clients. */
public final class ClientCallsTest {
    private static final String A = "throws.IllegalArgumentException";
    private static final String I = "throws.IndexOutOfBoundsException";
    private static final String S = "throws.IllegalStateException";

    public static void main(String[] args) {
        newObject();
        lookup();
        makeDirectory();
        makeFile();
        link();
        remove();
        removeWhileMoving();
        rename();
        renameDirectories();
        pass();
        leases();
        recalls();
        known();
        Script.end();
    }

    private static void newObject() {
        Script.run("1 a new object has the root alone",
            "size 0 = 0; fragments 0 = 1; byTree 0 0 = -1; byTree 0 49 = -1",
            "ownerOf 0 0 = 0; ownerOf 0 7 = 0; serverOf 0 0 = 0; serverOf 0 49 = 0",
            "size 1 = " + I + "; size -1 = " + I + "; links 0 = " + I + "; anchor 0 = " + I,
            "load 0 = 0; load 1 = 0; load 2 = 0; load 3 = 0",
            "leases 0 = 0; leases 3 = 0; recalls 0 = 0; recalls 3 = 0; known 0 = 0; known 3 = 0",
            "isFrozen 0 0 = false; stepMove = " + S + "; giveUpMove = " + S,
            "pass 1 = 1; makeDirectory 0 0 0 = 1; makeFile 0 0 1 = 0");
        Script.run("1 two objects share nothing", "size 0 = 0; load 0 = 0; pass 1 = 1");
    }

    private static void lookup() {
        Script.run("2 lookup answers what a name stands for",
            "makeFile 0 0 3 = 0; makeFile 0 0 4 = 1; makeDirectory 0 0 5 = 1",
            "makeDirectory 0 1 5 = 2; lookup 1 0 3 = 0; lookup 1 0 4 = 1",
            "lookup 2 0 5 = -3; lookup 3 1 5 = -4; lookup 0 2 49 = -1; lookup 0 0 0 = -1");
        Script.run("2 lookup throws, the first one of its clause",
            "lookup -1 0 0 = " + A + "; lookup 4 0 0 = " + A,
            "lookup 0 0 -1 = " + A + "; lookup 0 0 50 = " + A,
            "lookup 0 1 0 = " + I + "; lookup 0 -1 0 = " + I + "; lookup 0 12 0 = " + I,
            "lookup 0 2147483647 0 = " + I + "; lookup 0 -2147483648 0 = " + I,
            "lookup 4 1 0 = " + A + "; lookup 0 1 50 = " + A + "; load 0 = 0",
            "makeDirectory 0 0 0 = 1; lookup 0 1 0 = -1; remove 0 0 0 = -3",
            "lookup 0 1 0 = " + I);
        Script.run("2 what a lease tells is what stands there now",
            "lookup 0 0 3 = -1; makeFile 0 0 3 = 0; lookup 0 0 3 = 0; lookup 0 0 3 = 0",
            "remove 1 0 3 = 0; lookup 0 0 3 = -1; known 0 = 1");
    }

    private static void makeDirectory() {
        Script.run("3 makeDirectory numbers directories, at most 12 ever",
            "makeDirectory 0 0 0 = 1; makeDirectory 1 1 49 = 2; makeDirectory 2 2 0 = 3",
            "byTree 0 0 = -3; byTree 1 49 = -4; byTree 2 0 = -5; size 0 = 1; size 3 = 0",
            "fragments 3 = 1; ownerOf 3 0 = -1; ownerOf 3 7 = -1; serverOf 3 9 = 0",
            "remove 0 2 0 = -5; makeDirectory 0 2 0 = 4; size 3 = " + I,
            "makeDirectory 0 0 1 = 5; makeDirectory 0 0 2 = 6; makeDirectory 0 0 3 = 7",
            "makeDirectory 0 0 4 = 8; makeDirectory 0 0 5 = 9; makeDirectory 0 0 6 = 10",
            "makeDirectory 3 0 7 = 11; makeDirectory 0 0 8 = " + S + "; byTree 0 8 = -1",
            "remove 0 0 7 = -13; makeDirectory 0 0 7 = " + S + "; size 12 = " + I,
            "makeDirectory 0 12 7 = " + I);
        Script.run("3 makeDirectory throws, the first one of its clause",
            "makeFile 0 0 0 = 0; makeDirectory 0 0 1 = 1",
            "makeDirectory 0 0 0 = " + S + "; makeDirectory 0 0 1 = " + S,
            "makeDirectory 4 0 2 = " + A + "; makeDirectory -1 0 2 = " + A,
            "makeDirectory 0 0 50 = " + A + "; makeDirectory 0 0 -1 = " + A,
            "makeDirectory 0 2 0 = " + I + "; makeDirectory 0 -1 0 = " + I,
            "makeDirectory 4 2 0 = " + A + "; makeDirectory 0 2 50 = " + A,
            "makeDirectory 4 0 0 = " + A + "; load 0 = 2",
            "beginMove 1 0 1 = ok; makeDirectory 0 1 0 = " + S + "; makeDirectory 0 0 2 = 2",
            "makeDirectory 0 2 0 = 3; giveUpMove = 0; makeDirectory 0 1 0 = 4");
    }

    private static void makeFile() {
        StringBuilder thirty = new StringBuilder();
        for (int file = 0; file < 30; file++) {
            thirty.append("makeFile ").append(file % 4).append(" 0 ").append(file);
            thirty.append(" = ").append(file).append(';');
        }
        Script.run("4 makeFile numbers files, at most 30 ever",
            thirty.toString(), "makeFile 0 0 30 = " + S + "; links 30 = " + I + "; links 29 = 1",
            "remove 0 0 29 = 29; links 29 = 0; makeFile 0 0 29 = " + S + "; size 0 = 29",
            "load 0 = 31; byTree 0 17 = 17; link 0 0 30 0 = 2");
        Script.run("4 makeFile throws, the first one of its clause",
            "makeFile 0 0 0 = 0; makeDirectory 0 0 1 = 1; makeFile 1 0 0 = " + S,
            "makeFile 1 0 1 = " + S + "; makeFile 4 0 2 = " + A + "; makeFile -1 0 2 = " + A,
            "makeFile 0 0 50 = " + A + "; makeFile 0 0 -1 = " + A + "; makeFile 0 2 0 = " + I,
            "makeFile 0 -1 0 = " + I + "; makeFile 4 2 0 = " + A + "; makeFile 0 2 50 = " + A,
            "makeFile 4 0 0 = " + A + "; links 1 = " + I + "; load 0 = 2",
            "beginMove 1 3 2 = ok; makeFile 0 1 0 = " + S + "; stepMove = 1",
            "makeFile 0 1 0 = " + S + "; stepMove = 2; makeFile 0 1 0 = 1; load 2 = 1",
            "makeFile 0 0 49 = 2; links 2 = 1; anchor 2 = 49");
    }

    private static void link() {
        Script.run("5 link answers how many links a file has",
            "makeFile 0 0 0 = 0; makeDirectory 0 0 1 = 1; link 1 0 2 0 = 2; link 2 1 0 0 = 3",
            "byTree 0 2 = 0; byTree 1 0 = 0; links 0 = 3; load 0 = 4; remove 0 0 2 = 0",
            "link 3 0 49 0 = 3; size 0 = 3; size 1 = 1");
        Script.run("5 link throws, the first one of its clause",
            "makeFile 0 0 0 = 0; makeFile 0 0 1 = 1; remove 0 0 1 = 1; makeDirectory 0 0 2 = 1",
            "link 4 0 3 0 = " + A + "; link -1 0 3 0 = " + A + "; link 0 0 50 0 = " + A,
            "link 0 0 -1 0 = " + A + "; link 0 2 3 0 = " + I + "; link 0 -1 3 0 = " + I,
            "link 0 0 3 2 = " + I + "; link 0 0 3 -1 = " + I + "; link 0 0 3 1 = " + I,
            "link 0 0 3 -3 = " + I + "; link 0 0 3 30 = " + I,
            "link 0 0 3 2147483647 = " + I + "; link 0 0 3 -2147483648 = " + I,
            "link 0 0 0 0 = " + S + "; link 0 0 2 0 = " + S,
            "link 4 2 0 2 = " + A + "; link 0 0 0 1 = " + I + "; link 0 2 0 0 = " + I,
            "links 0 = 1; size 0 = 2; load 0 = 4",
            "beginMove 1 0 3 = ok; link 0 1 0 0 = " + S + "; link 0 1 0 1 = " + I,
            "giveUpMove = 0; link 0 1 0 0 = 2");
    }

    private static void remove() {
        Script.run("6 remove answers what the name stood for",
            "makeFile 0 0 0 = 0; link 0 0 1 0 = 2; makeDirectory 0 0 2 = 1; makeFile 0 0 3 = 1",
            "remove 1 0 0 = 0; byTree 0 0 = -1; links 0 = 1; remove 2 0 1 = 0; links 0 = 0",
            "remove 3 0 3 = 1; remove 0 0 2 = -3; size 0 = 0; size 1 = " + I,
            "lookup 0 1 0 = " + I + "; fragments 1 = " + I + "; load 0 = 8");
        Script.run("6 remove throws, the first one of its clause",
            "makeDirectory 0 0 0 = 1; makeFile 0 1 9 = 0; makeDirectory 0 0 1 = 2",
            "remove 0 0 0 = " + S + "; remove 0 0 2 = " + S + "; remove 0 1 0 = " + S,
            "remove 4 0 1 = " + A + "; remove -1 0 1 = " + A + "; remove 0 0 50 = " + A,
            "remove 0 0 -1 = " + A + "; remove 0 3 0 = " + I + "; remove 0 -1 0 = " + I,
            "remove 4 3 0 = " + A + "; remove 0 3 50 = " + A + "; remove 4 0 2 = " + A,
            "load 0 = 3; remove 0 1 9 = 0; remove 0 0 0 = -3; remove 0 1 9 = " + I,
            "size 1 = " + I + "; size 2 = 0");
        Script.run("6 a directory within a directory keeps it from going",
            "makeDirectory 0 0 0 = 1; makeDirectory 0 1 0 = 2; remove 0 0 0 = " + S,
            "remove 0 1 0 = -4; remove 0 0 0 = -3");
        Script.run("6 the loads of a directory that is gone are gone",
            "makeDirectory 0 0 0 = 1; lookup 0 1 0 = -1; lookup 0 1 1 = -1; load 0 = 3",
            "remove 0 0 0 = -3; load 0 = 2");
    }

    private static void removeWhileMoving() {
        Script.run("6 a directory one of whose fragments moves stays",
            "makeDirectory 0 0 0 = 1; split 1 0 = 2; beginMove 1 5 1 = ok",
            "isFrozen 0 0 = false; remove 0 0 0 = " + S + "; stepMove = 1",
            "remove 0 0 0 = " + S + "; stepMove = 2; remove 0 0 0 = -3");
        Script.run("6 names in frozen fragments stay",
            "makeDirectory 0 0 0 = 1; makeFile 0 1 0 = 0; makeDirectory 0 1 1 = 2",
            "beginMove 1 0 1 = ok; remove 0 1 0 = " + S + "; remove 0 1 1 = " + S,
            "giveUpMove = 0; remove 0 1 0 = 0; remove 0 1 1 = -4");
        Script.run("6 an owned directory below a frozen one can be emptied, but not removed",
            "makeDirectory 0 0 0 = 1; makeDirectory 0 1 0 = 2; makeFile 0 2 0 = 0",
            "beginMove 2 0 3 = ok; stepMove = 1; stepMove = 2; beginMove 1 0 2 = ok",
            "isFrozen 2 0 = false; remove 0 2 0 = 0; remove 0 1 0 = " + S);
    }

    private static void rename() {
        Script.run("7 rename of a link changes both names",
            "makeFile 0 0 0 = 0; makeDirectory 0 0 1 = 1; load 0 = 2",
            "rename 1 0 0 0 2 = ok; byTree 0 0 = -1; byTree 0 2 = 0; load 0 = 4",
            "rename 1 0 2 1 2 = ok; byTree 0 2 = -1; byTree 1 2 = 0; load 0 = 6",
            "rename 1 1 2 1 49 = ok; anchor 0 = 149; links 0 = 1; size 0 = 1; size 1 = 1");
        Script.run("7 each of both names counts in its own fragment",
            "makeFile 0 0 0 = 0; split 0 0 = 2; beginMove 0 4 1 = ok; stepMove = 1; stepMove = 2",
            "load 0 = 1; load 1 = 0; rename 0 0 0 0 2 = ok; load 0 = 2; load 1 = 1",
            "rename 0 0 2 0 7 = ok; load 0 = 2; load 1 = 3");
        Script.run("7 rename throws, the first one of its clause",
            "makeFile 0 0 0 = 0; makeFile 0 0 1 = 1; makeDirectory 0 0 2 = 1",
            "rename 4 0 0 0 3 = " + A + "; rename -1 0 0 0 3 = " + A,
            "rename 0 0 50 0 3 = " + A + "; rename 0 0 -1 0 3 = " + A,
            "rename 0 0 0 0 50 = " + A + "; rename 0 0 0 0 -1 = " + A,
            "rename 0 2 0 0 3 = " + I + "; rename 0 0 0 2 3 = " + I,
            "rename 0 -1 0 0 3 = " + I + "; rename 0 0 0 -1 3 = " + I,
            "rename 0 0 3 0 4 = " + S + "; rename 0 0 0 0 1 = " + S + "; rename 0 0 0 0 0 = " + S,
            "rename 0 0 0 0 2 = " + S + "; rename 0 0 2 1 3 = " + S,
            "rename 4 2 0 2 3 = " + A + "; rename 0 2 0 0 50 = " + A,
            "rename 0 0 3 2 0 = " + I + "; rename 0 0 0 0 50 = " + A + "; load 0 = 3",
            "remove 0 0 2 = -3; rename 0 0 0 1 0 = " + I + "; rename 0 1 0 0 5 = " + I);
        Script.run("7 both names must not be frozen",
            "makeDirectory 0 0 0 = 1; makeFile 0 0 1 = 0; makeFile 0 1 1 = 1",
            "beginMove 1 0 1 = ok; rename 0 0 1 1 2 = " + S + "; rename 0 1 1 0 2 = " + S,
            "rename 0 1 1 1 2 = " + S + "; rename 0 0 1 0 2 = ok; giveUpMove = 0",
            "rename 0 0 2 1 2 = ok; rename 0 1 1 0 2 = ok; byTree 0 2 = 1; byTree 1 2 = 0");
    }

    private static void renameDirectories() {
        Script.run("7 a directory takes all with it, and inherits where it stands then",
            "makeDirectory 0 0 0 = 1; makeDirectory 0 0 1 = 2; makeDirectory 0 1 5 = 3",
            "makeFile 0 3 7 = 0; beginMove 2 0 2 = ok; stepMove = 1; stepMove = 2",
            "serverOf 3 7 = 0; load 2 = 0; rename 0 0 0 2 0 = ok; byTree 2 0 = -3",
            "byTree 0 0 = -1; serverOf 1 0 = 2; serverOf 3 7 = 2; byTree 3 7 = 0; byTree 1 5 = -5",
            "anchor 0 = 307; load 2 = 3; rename 0 2 0 0 9 = ok; serverOf 3 7 = 0; load 2 = 2");
        Script.run("7 a directory goes neither into itself nor below",
            "makeDirectory 0 0 0 = 1; makeDirectory 0 1 0 = 2; makeDirectory 0 2 0 = 3",
            "makeDirectory 0 0 1 = 4; rename 0 0 0 1 1 = " + S + "; rename 0 0 0 2 1 = " + S,
            "rename 0 0 0 3 1 = " + S + "; rename 0 1 0 3 1 = " + S + "; rename 0 1 0 1 1 = ok",
            "rename 0 1 1 4 0 = ok; rename 0 0 0 3 0 = ok; rename 0 0 1 1 0 = " + S,
            "byTree 3 0 = -3; rename 0 0 1 0 2 = ok; byTree 0 2 = -6; size 0 = 1");
        Script.run("7 a directory inherits by its new name, in the same directory too",
            "makeDirectory 0 0 0 = 1; split 0 0 = 2; beginMove 0 4 2 = ok; stepMove = 1",
            "stepMove = 2; serverOf 1 0 = 0; rename 0 0 0 0 2 = ok; serverOf 1 0 = 2",
            "beginMove 0 4 1 = ok; isFrozen 1 0 = true; giveUpMove = 0; rename 0 0 2 0 1 = ok",
            "serverOf 1 0 = 0");
        Script.run("7 a directory whose fragment moves may be renamed",
            "makeDirectory 0 0 0 = 1; makeDirectory 0 0 1 = 2; beginMove 1 0 3 = ok",
            "rename 0 0 0 2 0 = ok; isFrozen 1 0 = true; isFrozen 2 0 = false; stepMove = 1",
            "rename 0 2 0 0 5 = ok; rename 0 0 1 1 5 = " + S + "; stepMove = 2; ownerOf 1 0 = 3");
        Script.run("7 a chain of all directories",
            "makeDirectory 0 0 0 = 1; makeDirectory 0 1 0 = 2; makeDirectory 0 2 0 = 3",
            "makeDirectory 0 3 0 = 4; makeDirectory 0 4 0 = 5; makeDirectory 0 5 0 = 6",
            "makeDirectory 0 6 0 = 7; makeDirectory 0 7 0 = 8; makeDirectory 0 8 0 = 9",
            "makeDirectory 0 9 0 = 10; makeDirectory 0 10 0 = 11; rename 0 0 0 11 0 = " + S,
            "serverOf 11 0 = 0; beginMove 0 0 3 = ok; isFrozen 11 0 = true; stepMove = 1",
            "stepMove = 2; serverOf 11 0 = 3; load 3 = 11; isFrozen 11 0 = false",
            "rename 0 10 0 0 1 = ok; rename 0 0 0 11 0 = ok; serverOf 10 0 = 3");
    }

    private static void pass() {
        Script.run("8 pass answers the time then",
            "pass 1 = 1; pass 100 = 101; pass 9 = 110; pass 0 = " + A + "; pass 101 = " + A,
            "pass -1 = " + A + "; pass 2147483647 = " + A + "; pass -2147483648 = " + A,
            "pass 50 = 160");
    }

    private static void leases() {
        Script.run("9 a lease runs for ten minutes",
            "lookup 0 0 0 = -1; pass 4 = 4; lookup 0 0 1 = -1; leases 0 = 2; leases 1 = 0",
            "lookup 0 0 0 = -1; leases 0 = 2; pass 5 = 9; leases 0 = 2; pass 1 = 10; leases 0 = 1",
            "pass 3 = 13; leases 0 = 1; pass 1 = 14; leases 0 = 0",
            "leases 4 = " + A + "; leases -1 = " + A);
        Script.run("9 a lease that is used does not run longer, one got anew does",
            "lookup 0 0 0 = -1; pass 9 = 9; lookup 0 0 0 = -1; pass 1 = 10; leases 0 = 0",
            "lookup 0 0 0 = -1; known 0 = 1; pass 9 = 19; leases 0 = 1; pass 1 = 20; leases 0 = 0");
        Script.run("9 changes end leases and give none",
            "makeFile 0 0 0 = 0; leases 0 = 0; lookup 0 0 0 = 0; lookup 0 0 1 = -1",
            "link 0 0 1 0 = 2; leases 0 = 1; rename 0 0 0 0 2 = ok; leases 0 = 0",
            "lookup 0 0 2 = 0; remove 0 0 2 = 0; leases 0 = 0; lookup 0 0 5 = -1",
            "makeDirectory 0 0 5 = 1; leases 0 = 0; recalls 0 = 0");
        Script.run("9 leases in a directory that is gone are gone, below a renamed one they stay",
            "makeDirectory 0 0 0 = 1; makeDirectory 0 0 1 = 2; lookup 1 1 3 = -1",
            "lookup 1 1 4 = -1; lookup 1 2 3 = -1; rename 0 0 0 2 0 = ok; leases 1 = 3",
            "remove 0 2 0 = -3; leases 1 = 1; recalls 1 = 0; makeDirectory 0 2 0 = 3",
            "leases 1 = 1; lookup 1 3 3 = -1; leases 1 = 2");
    }

    private static void recalls() {
        Script.run("10 leases of other clients are recalled when a name changes",
            "lookup 0 0 0 = -1; lookup 1 0 0 = -1; lookup 2 0 0 = -1; lookup 3 0 1 = -1",
            "makeFile 1 0 0 = 0; recalls 0 = 1; recalls 1 = 0; recalls 2 = 1; recalls 3 = 0",
            "leases 0 = 0; leases 1 = 0; leases 2 = 0; leases 3 = 1",
            "link 0 0 1 0 = 2; recalls 3 = 1; lookup 3 0 0 = 0; lookup 3 0 2 = -1",
            "rename 0 0 0 0 2 = ok; recalls 3 = 3; lookup 0 0 2 = 0; remove 2 0 2 = 0",
            "recalls 0 = 2; lookup 1 0 5 = -1; makeDirectory 2 0 5 = 1; recalls 1 = 1",
            "recalls 4 = " + A + "; recalls -1 = " + A);
        Script.run("10 what does not run any more is not recalled",
            "lookup 0 0 0 = -1; lookup 1 0 1 = -1; pass 1 = 1; lookup 2 0 0 = -1; pass 9 = 10",
            "makeFile 3 0 0 = 0; makeFile 3 0 1 = 1; recalls 0 = 0; recalls 1 = 0; recalls 2 = 1",
            "remove 3 0 0 = 0; recalls 2 = 1");
        Script.run("10 a directory that goes recalls the leases on its own name alone",
            "makeDirectory 0 0 0 = 1; lookup 1 0 0 = -3; lookup 1 1 0 = -1; lookup 2 1 0 = -1",
            "remove 0 0 0 = -3; recalls 1 = 1; recalls 2 = 0; leases 1 = 0; leases 2 = 0");
    }

    private static void known() {
        Script.run("11 a client knows a name while its lease runs",
            "lookup 0 0 0 = -1; known 0 = 0; lookup 0 0 0 = -1; lookup 0 0 0 = -1; known 0 = 2",
            "lookup 1 0 0 = -1; known 1 = 0; load 0 = 2; pass 9 = 9; lookup 0 0 0 = -1",
            "known 0 = 3; load 0 = 2; pass 1 = 10; lookup 0 0 0 = -1; known 0 = 3; load 0 = 3",
            "byTree 0 0 = -1; known 0 = 3; known 4 = " + A + "; known -1 = " + A);
        Script.run("11 a client does not know what has been recalled, or what it changed",
            "lookup 0 0 0 = -1; makeFile 1 0 0 = 0; lookup 0 0 0 = 0; known 0 = 0",
            "lookup 1 0 0 = 0; known 1 = 0; remove 1 0 0 = 0; lookup 1 0 0 = -1; known 1 = 0");
    }
}

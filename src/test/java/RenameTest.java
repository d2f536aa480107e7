/** Promise 7: rename. */
public final class RenameTest {
    public static void main(String[] args) {
        links();
        directories();
        inheriting();
        arguments();
        indexes();
        names();
        targets();
        frozen();
        Script.end();
    }

    private static void links() {
        Script.run("7 a link stands at the other name then, perhaps in another directory",
            "makeFile 0 0 0 = 0; makeDirectory 0 0 1 = 1; rename 1 0 0 0 2 = ok",
            "byTree 0 0 = -1; byTree 0 2 = 0; rename 1 0 2 1 2 = ok; byTree 0 2 = -1",
            "byTree 1 2 = 0; rename 1 1 2 1 49 = ok; byTree 1 2 = -1; byTree 1 49 = 0",
            "anchor 0 = 149; links 0 = 1; size 0 = 1; size 1 = 1");
        Script.run("7 both names are changed: each counts in the load of its fragment",
            "makeFile 0 0 0 = 0; split 0 0 = 2;", Script.move(0, 4, 1), "load 0 = 1; load 1 = 0",
            "rename 0 0 0 0 2 = ok; load 0 = 2; load 1 = 1; rename 0 0 2 0 7 = ok; load 0 = 2",
            "load 1 = 3");
        Script.run("7 both names are changed: all leases on both end",
            "makeFile 0 0 0 = 0; lookup 0 0 0 = 0; lookup 0 0 1 = -1; lookup 1 0 0 = 0",
            "lookup 2 0 1 = -1; lookup 3 0 2 = -1; rename 0 0 0 0 1 = ok; leases 0 = 0",
            "leases 1 = 0; leases 2 = 0; leases 3 = 1; recalls 0 = 0; recalls 1 = 1",
            "recalls 2 = 1; recalls 3 = 0; lookup 0 0 0 = -1; lookup 0 0 1 = 0; known 0 = 0");
    }

    private static void directories() {
        Script.run("7 a directory stands at the other name alone, with all that is in it",
            "makeDirectory 0 0 0 = 1; makeDirectory 0 0 1 = 2; makeDirectory 0 1 5 = 3",
            "makeFile 0 3 7 = 0; rename 0 0 0 2 0 = ok; byTree 2 0 = -3; byTree 0 0 = -1",
            "byTree 1 5 = -5; byTree 3 7 = 0; anchor 0 = 307; size 0 = 1; size 1 = 1; size 2 = 1",
            "rename 0 2 0 2 49 = ok; byTree 2 49 = -3; byTree 2 0 = -1; remove 0 0 1 = ISE");
        Script.run("7 a directory whose fragment moves may be renamed",
            "makeDirectory 0 0 0 = 1; makeDirectory 0 0 1 = 2; beginMove 1 0 3 = ok",
            "rename 0 0 0 2 0 = ok; isFrozen 1 0 = true; isFrozen 2 0 = false; stepMove = 1",
            "rename 0 2 0 0 5 = ok; rename 0 0 1 1 5 = ISE; stepMove = 2; ownerOf 1 0 = 3");
    }

    private static void inheriting() {
        Script.run("7 a directory inherits where it stands then",
            "makeDirectory 0 0 0 = 1; makeDirectory 0 0 1 = 2; makeDirectory 0 1 5 = 3",
            "makeFile 0 3 7 = 0;", Script.move(2, 0, 2), "serverOf 3 7 = 0; load 2 = 0",
            "rename 0 0 0 2 0 = ok; serverOf 1 0 = 2; serverOf 3 7 = 2; load 2 = 3",
            "rename 0 2 0 0 9 = ok; serverOf 3 7 = 0; load 2 = 2");
        Script.run("7 a directory inherits by its new name, in the same directory too",
            "makeDirectory 0 0 0 = 1; split 0 0 = 2;", Script.move(0, 4, 2),
            "serverOf 1 0 = 0; rename 0 0 0 0 2 = ok; serverOf 1 0 = 2",
            "beginMove 0 4 1 = ok; isFrozen 1 0 = true; giveUpMove = 0; rename 0 0 2 0 1 = ok",
            "serverOf 1 0 = 0");
    }

    private static void arguments() {
        Script.range("7 rename throws IllegalArgumentException if client is out of range",
            Script.files(1), "rename # 0 0 0 1", 0, 3, "IAE");
        Script.range("7 rename throws IllegalArgumentException if name is out of range",
            "makeFile 0 0 0 = 0; makeFile 0 0 49 = 1;", "rename 0 0 # 0 20", 0, 49, "IAE");
        Script.range("7 rename throws IllegalArgumentException if other is out of range",
            "makeFile 0 0 20 = 0;", "rename 0 0 20 0 #", 0, 49, "IAE");
        Script.run("7 of several exceptions rename throws the first one",
            "makeFile 0 0 0 = 0; rename 4 1 0 0 1 = IAE; rename 0 1 50 0 1 = IAE",
            "rename 0 1 0 0 50 = IAE; rename 4 0 0 1 1 = IAE; rename 0 0 50 1 1 = IAE",
            "rename 0 0 0 1 50 = IAE; rename 4 0 1 0 2 = IAE; rename 0 0 1 0 50 = IAE",
            "rename 4 0 0 0 0 = IAE; rename 0 0 1 1 2 = IOOBE; rename 0 1 0 0 0 = IOOBE",
            "beginMove 0 0 1 = ok; rename 4 0 0 0 1 = IAE; rename 0 0 0 0 -1 = IAE",
            "rename 0 0 -1 0 1 = IAE; rename 0 0 0 1 1 = IOOBE; rename 0 1 0 0 1 = IOOBE");
    }

    private static void indexes() {
        Script.noSuchDirectory(
            "7 rename throws IndexOutOfBoundsException if there is no such directory",
            "makeFile 0 0 49 = 0; makeFile 0 10 49 = 1;", "rename 0 # 49 0 48");
        Script.noSuchDirectory(
            "7 rename throws IndexOutOfBoundsException if there is no such target",
            "makeFile 0 0 49 = 0;", "rename 0 0 49 # 48");
    }

    private static void names() {
        Script.run("7 rename throws IllegalStateException if the name is free",
            "makeDirectory 0 0 2 = 1; rename 0 0 0 0 1 = ISE; rename 0 0 0 1 0 = ISE",
            "rename 0 1 0 0 1 = ISE; makeFile 0 0 0 = 0; rename 0 0 0 0 1 = ok",
            "rename 0 0 0 0 3 = ISE; load 0 = 4");
        Script.run("7 rename throws IllegalStateException if the other name is not free",
            "makeFile 0 0 0 = 0; makeFile 0 0 1 = 1; makeDirectory 0 0 2 = 1; link 0 1 3 0 = 2",
            "rename 0 0 0 0 1 = ISE; rename 0 0 0 0 2 = ISE; rename 0 0 0 1 3 = ISE",
            "rename 0 0 2 0 0 = ISE; rename 0 1 3 0 0 = ISE; rename 0 0 0 1 1 = ok",
            "rename 0 0 1 0 0 = ok; byTree 1 1 = 0; byTree 0 0 = 1; load 0 = 8");
        Script.run("7 rename throws IllegalStateException if the other name is the name itself",
            "makeFile 0 0 0 = 0; makeDirectory 0 0 1 = 1; rename 0 0 0 0 0 = ISE",
            "rename 0 0 1 0 1 = ISE; byTree 0 0 = 0; byTree 0 1 = -3");
    }

    private static void targets() {
        Script.run("7 rename throws IllegalStateException if the target is the directory itself",
            "makeDirectory 0 0 0 = 1; makeDirectory 0 1 0 = 2; rename 0 0 0 1 1 = ISE",
            "rename 0 1 0 2 0 = ISE; rename 0 1 0 1 1 = ok; rename 0 1 1 0 1 = ok; byTree 0 1 = -4");
        Script.run("7 rename throws IllegalStateException if the target is below the directory",
            "makeDirectory 0 0 0 = 1; makeDirectory 0 1 0 = 2; makeDirectory 0 2 0 = 3",
            "makeDirectory 0 0 1 = 4; rename 0 0 0 2 1 = ISE; rename 0 0 0 3 1 = ISE",
            "rename 0 1 0 3 1 = ISE; rename 0 2 0 1 1 = ok; rename 0 1 0 3 0 = ok",
            "rename 0 1 1 4 0 = ok; rename 0 0 0 2 0 = ok; rename 0 0 1 1 0 = ISE",
            "byTree 3 0 = -4; rename 0 0 1 0 2 = ok; byTree 0 2 = -6; size 0 = 1");
        Script.run("7 the target is looked for through a chain of all directories",
            Script.chain(11, 0), "rename 0 0 0 11 0 = ISE; rename 0 0 0 10 1 = ISE",
            "serverOf 11 0 = 0; beginMove 0 0 3 = ok; isFrozen 11 0 = true; stepMove = 1",
            "stepMove = 2; serverOf 11 0 = 3; load 3 = 11; isFrozen 11 0 = false",
            "rename 0 10 0 0 1 = ok; rename 0 0 0 11 0 = ok; serverOf 10 0 = 3");
        Script.run("7 a link goes into the directory that has the number of its file",
            "makeDirectory 0 0 0 = 1; makeFile 0 0 1 = 0; makeFile 0 0 2 = 1; rename 0 0 2 1 0 = ok",
            "makeFile 0 1 1 = 2; makeFile 0 1 2 = 3; rename 0 1 2 1 3 = ok; byTree 1 3 = 3",
            "byTree 1 0 = 1");
    }

    private static void frozen() {
        String grown = "makeDirectory 0 0 0 = 1; makeDirectory 0 1 4 = 2; makeFile 0 0 1 = 0;"
            + "makeFile 0 1 1 = 1; makeFile 0 2 1 = 2; split 1 0 = 2; makeFile 0 1 0 = 3;"
            + "makeFile 0 1 2 = 4;";
        Script.run("7 rename throws IllegalStateException if the name's fragment is frozen",
            grown, "beginMove 1 0 1 = ok; rename 0 1 1 0 2 = ISE; rename 0 1 0 1 5 = ISE",
            "rename 0 1 2 0 2 = ok; rename 0 2 1 0 3 = ok; stepMove = 1; rename 0 1 1 0 4 = ISE",
            "stepMove = 2; rename 0 1 1 0 4 = ok; rename 0 1 0 1 5 = ok");
        Script.run("7 rename throws IllegalStateException if the other name's fragment is frozen",
            grown, "beginMove 1 0 1 = ok; rename 0 0 1 1 3 = ISE; rename 0 1 2 1 3 = ISE",
            "rename 0 0 1 0 2 = ok; rename 0 0 2 1 5 = ok; stepMove = 1; rename 0 1 5 1 6 = ISE",
            "giveUpMove = 1; rename 0 1 5 1 6 = ok");
        Script.run("7 rename throws IllegalStateException if a fragment that inherits is frozen",
            grown, "beginMove 1 4 1 = ok; isFrozen 2 1 = true; rename 0 2 1 0 2 = ISE",
            "rename 0 0 1 2 0 = ISE; giveUpMove = 0; rename 0 2 1 0 2 = ok; rename 0 0 1 2 0 = ok");
        Script.run("7 a name that is not frozen may be renamed while a move goes on",
            "makeDirectory 0 0 0 = 1; makeFile 0 0 1 = 0; makeFile 0 1 1 = 1; beginMove 1 0 1 = ok",
            "rename 0 0 1 0 2 = ok; giveUpMove = 0; rename 0 0 2 1 2 = ok; rename 0 1 1 0 2 = ok",
            "byTree 0 2 = 1; byTree 1 2 = 0");
    }
}

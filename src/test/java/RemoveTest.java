/** Promise 6: remove. */
public final class RemoveTest {
    public static void main(String[] args) {
        answers();
        gone();
        throwing();
        freeOrFull();
        moves();
        frozen();
        Script.end();
    }

    private static void answers() {
        Script.run("6 remove answers what lookup would have answered",
            "makeFile 0 0 0 = 0; link 0 0 1 0 = 2; makeDirectory 0 0 2 = 1; makeFile 0 0 3 = 1",
            "remove 1 0 0 = 0; byTree 0 0 = -1; links 0 = 1; remove 2 0 1 = 0; links 0 = 0",
            "remove 3 0 3 = 1; remove 0 0 2 = -3; size 0 = 0; size 1 = IOOBE",
            "lookup 0 1 0 = IOOBE; fragments 1 = IOOBE; load 0 = 8");
        Script.run("6 remove answers the greatest numbers too",
            Script.files(30), "makeDirectory 0 0 30 = 1; makeDirectory 0 0 31 = 2",
            "makeDirectory 0 0 32 = 3; makeDirectory 0 0 33 = 4; makeDirectory 0 0 34 = 5",
            "makeDirectory 0 0 35 = 6; makeDirectory 0 0 36 = 7; makeDirectory 0 0 37 = 8",
            "makeDirectory 0 0 38 = 9; makeDirectory 0 0 39 = 10; makeDirectory 0 10 49 = 11",
            "remove 0 0 29 = 29; remove 0 10 49 = -13; remove 0 0 39 = -12");
    }

    private static void gone() {
        Script.run("6 a file is gone with its last link, not ahead of it",
            "makeFile 0 0 0 = 0; link 0 0 1 0 = 2; remove 0 0 0 = 0; links 0 = 1; anchor 0 = 1",
            "byTree 0 1 = 0; link 0 0 2 0 = 2; remove 0 0 1 = 0; remove 0 0 2 = 0; links 0 = 0",
            "anchor 0 = -1; link 0 0 0 0 = IOOBE");
        Script.run("6 an empty directory is gone then",
            "makeDirectory 0 0 0 = 1; makeDirectory 0 0 1 = 2; remove 0 0 0 = -3",
            "size 1 = IOOBE; fragments 1 = IOOBE; byTree 1 0 = IOOBE; makeFile 0 1 0 = IOOBE",
            "size 2 = 0; size 0 = 1; byTree 0 0 = -1; byTree 0 1 = -4");
        Script.run("6 the loads of a directory that is gone are gone",
            "makeDirectory 0 0 0 = 1; lookup 0 1 0 = -1; lookup 0 1 1 = -1; load 0 = 3",
            "remove 0 0 0 = -3; load 0 = 2");
        Script.run("6 a directory may be gone though its fragments are split and owned",
            "makeDirectory 0 0 0 = 1; split 1 0 = 2;", Script.move(1, 0, 1), Script.move(1, 4, 2),
            "remove 0 0 0 = -3; fragments 1 = IOOBE;", Script.loads(2, 0, 0, 0));
    }

    private static void throwing() {
        Script.range("6 remove throws IllegalArgumentException if client is out of range",
            Script.files(1), "remove # 0 0", 0, 3, "IAE");
        Script.range("6 remove throws IllegalArgumentException if name is out of range",
            "makeFile 0 0 0 = 0; makeFile 0 0 49 = 1", "remove 0 0 #", 0, 49, "IAE");
        Script.noSuchDirectory(
            "6 remove throws IndexOutOfBoundsException if there is no such directory",
            "makeFile 0 0 49 = 0; makeFile 0 10 49 = 1;", "remove 0 # 49");
        Script.run("6 of several exceptions remove throws the first one",
            "remove 4 0 0 = IAE; remove 0 0 50 = IAE; remove 4 1 0 = IAE; remove 0 1 50 = IAE",
            "remove 0 1 0 = IOOBE; makeDirectory 0 0 0 = 1; makeFile 0 1 0 = 0",
            "remove -1 0 0 = IAE; beginMove 0 0 1 = ok; remove 4 1 0 = IAE; remove 0 1 -1 = IAE",
            "remove 0 2 0 = IOOBE; load 0 = 2");
    }

    private static void freeOrFull() {
        Script.run("6 remove throws IllegalStateException if the name is free",
            "remove 0 0 0 = ISE; makeFile 0 0 1 = 0; remove 0 0 0 = ISE; remove 0 0 1 = 0",
            "remove 0 0 1 = ISE; makeDirectory 0 0 1 = 1; remove 0 1 1 = ISE; remove 0 0 1 = -3",
            "remove 0 0 1 = ISE; load 0 = 4");
        Script.run("6 remove throws IllegalStateException for a directory with a link in it",
            "makeDirectory 0 0 0 = 1; makeFile 0 1 49 = 0; remove 0 0 0 = ISE; link 0 1 0 0 = 2",
            "remove 0 0 0 = ISE; remove 0 1 49 = 0; remove 0 0 0 = ISE; remove 0 1 0 = 0",
            "remove 0 0 0 = -3");
        Script.run("6 remove throws IllegalStateException for a directory with a directory in it",
            "makeDirectory 0 0 0 = 1; makeDirectory 0 1 0 = 2; remove 0 0 0 = ISE",
            "rename 0 1 0 0 1 = ok; remove 0 0 0 = -3; size 2 = 0; size 1 = IOOBE");
    }

    private static void moves() {
        Script.run("6 remove throws IllegalStateException if a fragment of the directory moves",
            "makeDirectory 0 0 0 = 1; makeDirectory 0 0 1 = 2; split 1 0 = 2; beginMove 1 5 1 = ok",
            "isFrozen 0 0 = false; remove 0 0 0 = ISE; remove 0 0 1 = -4; stepMove = 1",
            "remove 0 0 0 = ISE; stepMove = 2; remove 0 0 0 = -3");
        Script.run("6 remove does not throw when the move is given up",
            "makeDirectory 0 0 0 = 1; split 1 0 = 2; beginMove 1 0 1 = ok; remove 0 0 0 = ISE",
            "giveUpMove = 0; remove 0 0 0 = -3");
        Script.run("6 a link may be removed while the fragment of the directory of its number moves",
            "makeDirectory 0 0 0 = 1; makeFile 0 0 1 = 0; makeFile 0 0 2 = 1; makeFile 0 0 3 = 2",
            "makeFile 0 0 4 = 3; beginMove 1 0 1 = ok; remove 0 0 2 = 1; remove 0 0 1 = 0",
            "remove 0 0 4 = 3; remove 0 0 0 = ISE");
    }

    private static void frozen() {
        Script.run("6 remove throws IllegalStateException if the name's fragment is frozen",
            "makeDirectory 0 0 0 = 1; makeFile 0 1 0 = 0; makeDirectory 0 1 1 = 2",
            "makeFile 0 2 0 = 1; makeFile 0 0 2 = 2; split 1 0 = 2; makeFile 0 1 2 = 3",
            "beginMove 1 0 1 = ok; remove 0 1 0 = ISE; remove 0 1 1 = ISE; remove 0 2 0 = ISE",
            "remove 0 1 2 = 3; remove 0 0 2 = 2; stepMove = 1; remove 0 1 0 = ISE",
            "remove 0 2 0 = ISE; giveUpMove = 1; remove 0 2 0 = 1; remove 0 1 0 = 0",
            "remove 0 1 1 = -4");
        Script.run("6 an owned directory below a frozen one can be emptied, but not removed",
            "makeDirectory 0 0 0 = 1; makeDirectory 0 1 0 = 2; makeFile 0 2 0 = 0;",
            Script.move(2, 0, 3), "beginMove 1 0 2 = ok; isFrozen 2 0 = false",
            "remove 0 2 0 = 0; remove 0 1 0 = ISE; stepMove = 1; stepMove = 2; remove 0 1 0 = -4");
    }
}

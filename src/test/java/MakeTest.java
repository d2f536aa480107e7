/** Promises 3 and 4: makeDirectory and makeFile. */
public final class MakeTest {
    public static void main(String[] args) {
        directories();
        noDirectory();
        directoryInState();
        files();
        noFile();
        fileInState();
        Script.end();
    }

    private static void directories() {
        Script.run("3 makeDirectory answers numbers in the order in which directories are made",
            "makeDirectory 0 0 0 = 1; makeDirectory 1 1 49 = 2; makeDirectory 2 2 0 = 3",
            "byTree 0 0 = -3; byTree 1 49 = -4; byTree 2 0 = -5; size 0 = 1; size 1 = 1",
            "size 2 = 1; size 3 = 0; size 4 = IOOBE");
        Script.run("3 the number of a directory that is gone is not given again",
            "makeDirectory 0 0 0 = 1; remove 0 0 0 = -3; makeDirectory 0 0 0 = 2",
            "size 1 = IOOBE; size 2 = 0; remove 0 0 0 = -4; makeDirectory 0 0 0 = 3");
        Script.run("3 a directory that is made has one fragment, of size 8, which has no owner",
            "makeDirectory 0 0 0 = 1; size 1 = 0; fragments 1 = 1; merge 1 0 = ISE;",
            Script.owners(1, "--------"), "beginMove 1 5 1 = ok;", Script.frozen(1, "********"));
        Script.run("3 a directory that is made has the server of its name and adds no load",
            Script.eight(0), Script.move(0, 5, 3), "makeDirectory 0 0 2 = 1; serverOf 1 0 = 3",
            "serverOf 1 49 = 3;", Script.loads(0, 0, 0, 1));
    }

    private static void noDirectory() {
        Script.range("3 makeDirectory throws IllegalArgumentException if client is out of range",
            "", "makeDirectory # 0 0", 0, 3, "IAE");
        Script.range("3 makeDirectory throws IllegalArgumentException if name is out of range",
            "", "makeDirectory 0 0 #", 0, 49, "IAE");
        Script.noSuchDirectory(
            "3 makeDirectory throws IndexOutOfBoundsException if there is no such directory",
            "", "makeDirectory 0 # 49");
        Script.run("3 of several exceptions makeDirectory throws the first one",
            "makeFile 0 0 0 = 0; makeDirectory 4 1 0 = IAE; makeDirectory 0 1 50 = IAE",
            "makeDirectory 4 0 0 = IAE; beginMove 0 0 1 = ok; makeDirectory -1 0 1 = IAE",
            "makeDirectory 0 0 50 = IAE; giveUpMove = 0;",
            "makeDirectory 0 0 1 = 1; makeDirectory 0 0 2 = 2; makeDirectory 0 0 3 = 3",
            "makeDirectory 0 0 4 = 4; makeDirectory 0 0 5 = 5; makeDirectory 0 0 6 = 6",
            "makeDirectory 0 0 7 = 7; makeDirectory 0 0 8 = 8; makeDirectory 0 0 9 = 9",
            "makeDirectory 0 0 10 = 10; makeDirectory 0 0 11 = 11; makeDirectory 0 0 12 = ISE",
            "makeDirectory 4 0 12 = IAE; makeDirectory 0 0 -1 = IAE; makeDirectory 0 12 0 = IOOBE",
            "makeDirectory 0 -1 0 = IOOBE; load 0 = 12");
    }

    private static void directoryInState() {
        Script.run("3 makeDirectory throws IllegalStateException if the name is not free",
            "makeFile 0 0 0 = 0; makeDirectory 0 0 1 = 1; link 0 1 2 0 = 2",
            "makeDirectory 0 0 0 = ISE; makeDirectory 0 0 1 = ISE; makeDirectory 0 1 2 = ISE",
            "makeDirectory 0 1 0 = 2; makeDirectory 0 1 1 = 3; makeDirectory 0 0 2 = 4",
            "remove 0 0 0 = 0; makeDirectory 0 0 0 = 5");
        Script.run("3 makeDirectory throws IllegalStateException if the name's fragment is frozen",
            "makeDirectory 0 0 0 = 1; makeDirectory 0 1 0 = 2; split 1 0 = 2",
            "beginMove 1 3 1 = ok; makeDirectory 0 1 1 = ISE; makeDirectory 0 2 0 = ISE",
            "makeDirectory 0 1 2 = 3; makeDirectory 0 0 1 = 4; stepMove = 1",
            "makeDirectory 0 1 1 = ISE; stepMove = 2; makeDirectory 0 1 1 = 5",
            "makeDirectory 0 2 0 = 6; beginMove 1 3 2 = ok; makeDirectory 0 2 1 = ISE",
            "giveUpMove = 0; makeDirectory 0 2 1 = 7");
        Script.run("3 makeDirectory throws IllegalStateException if there were 12 directories",
            Script.directories(10), "makeDirectory 3 1 49 = 11; makeDirectory 0 0 10 = ISE",
            "byTree 0 10 = -1; size 12 = IOOBE; remove 0 0 9 = -12; makeDirectory 0 0 9 = ISE",
            "makeDirectory 0 0 10 = ISE; remove 0 1 49 = -13; makeDirectory 0 1 49 = ISE",
            "size 0 = 9; makeFile 0 0 10 = 0");
    }

    private static void files() {
        Script.run("4 makeFile answers numbers in the order in which files are made",
            "makeFile 0 0 9 = 0; makeDirectory 0 0 1 = 1; makeFile 1 1 9 = 1; makeFile 2 0 0 = 2",
            "byTree 0 9 = 0; byTree 1 9 = 1; byTree 0 0 = 2; links 3 = IOOBE");
        Script.run("4 the number of a file that is gone is not given again",
            "makeFile 0 0 0 = 0; remove 0 0 0 = 0; makeFile 0 0 0 = 1; links 0 = 0; links 1 = 1",
            "remove 0 0 0 = 1; makeFile 0 0 0 = 2");
        Script.run("4 makeFile makes a file with one link",
            "makeFile 0 0 49 = 0; links 0 = 1; anchor 0 = 49; size 0 = 1; load 0 = 1",
            "remove 0 0 49 = 0; links 0 = 0");
    }

    private static void noFile() {
        Script.range("4 makeFile throws IllegalArgumentException if client is out of range",
            "", "makeFile # 0 0", 0, 3, "IAE");
        Script.range("4 makeFile throws IllegalArgumentException if name is out of range",
            "", "makeFile 0 0 #", 0, 49, "IAE");
        Script.noSuchDirectory(
            "4 makeFile throws IndexOutOfBoundsException if there is no such directory",
            "", "makeFile 0 # 49");
        Script.run("4 of several exceptions makeFile throws the first one",
            Script.files(29), "makeFile 4 1 0 = IAE; makeFile 0 1 50 = IAE; makeFile 4 0 0 = IAE",
            "beginMove 0 0 1 = ok; makeFile -1 0 30 = IAE; makeFile 0 0 50 = IAE",
            "giveUpMove = 0; makeFile 0 0 29 = 29; makeFile 0 0 30 = ISE; makeFile 4 0 30 = IAE",
            "makeFile 0 0 -1 = IAE; makeFile 0 1 30 = IOOBE; makeFile 0 -1 30 = IOOBE");
    }

    private static void fileInState() {
        Script.run("4 makeFile throws IllegalStateException if the name is not free",
            "makeFile 0 0 0 = 0; makeDirectory 0 0 1 = 1; link 0 1 2 0 = 2",
            "makeFile 0 0 0 = ISE; makeFile 0 0 1 = ISE; makeFile 0 1 2 = ISE",
            "makeFile 0 1 0 = 1; makeFile 0 1 1 = 2; makeFile 0 0 2 = 3",
            "remove 0 0 1 = ISE; remove 0 0 0 = 0; makeFile 0 0 0 = 4");
        Script.run("4 makeFile throws IllegalStateException if the name's fragment is frozen",
            "makeDirectory 0 0 0 = 1; makeDirectory 0 1 0 = 2; split 1 0 = 2",
            "beginMove 1 3 2 = ok; makeFile 0 1 1 = ISE; makeFile 0 2 0 = ISE",
            "makeFile 0 1 2 = 0; makeFile 0 0 1 = 1; stepMove = 1; makeFile 0 1 1 = ISE",
            "stepMove = 2; makeFile 0 1 1 = 2; makeFile 0 2 0 = 3; load 2 = 3",
            "beginMove 1 3 1 = ok; makeFile 0 2 1 = ISE; giveUpMove = 0; makeFile 0 2 1 = 4");
        Script.run("4 makeFile throws IllegalStateException if there were 30 files",
            Script.files(29), "makeFile 3 0 29 = 29; makeFile 0 0 30 = ISE; links 30 = IOOBE",
            "links 29 = 1; byTree 0 30 = -1; remove 0 0 29 = 29; links 29 = 0",
            "makeFile 0 0 29 = ISE; makeFile 0 0 30 = ISE; size 0 = 29; load 0 = 31",
            "link 0 0 30 0 = 2; makeDirectory 0 0 31 = 1");
    }
}

/** Promise 5: link. */
public final class LinkTest {
    public static void main(String[] args) {
        answers();
        throwing();
        files();
        states();
        Script.end();
    }

    private static void answers() {
        Script.run("5 link answers how many links the file has then",
            "makeFile 0 0 0 = 0; makeDirectory 0 0 1 = 1; link 1 0 2 0 = 2; link 2 1 0 0 = 3",
            "byTree 0 2 = 0; byTree 1 0 = 0; links 0 = 3; load 0 = 4; remove 0 0 2 = 0",
            "link 3 0 49 0 = 3; makeFile 0 0 3 = 1; link 0 0 4 1 = 2; size 0 = 5; size 1 = 1");
        Script.run("5 a file may be linked when its first link is gone",
            "makeFile 0 0 0 = 0; link 0 0 1 0 = 2; remove 0 0 0 = 0; link 0 0 0 0 = 2",
            "remove 0 0 1 = 0; link 0 0 1 0 = 2; links 0 = 2");
    }

    private static void throwing() {
        Script.range("5 link throws IllegalArgumentException if client is out of range",
            Script.files(1), "link # 0 1 0", 0, 3, "IAE");
        Script.range("5 link throws IllegalArgumentException if name is out of range",
            "makeFile 0 0 20 = 0;", "link 0 0 # 0", 0, 49, "IAE");
        Script.noSuchDirectory(
            "5 link throws IndexOutOfBoundsException if there is no such directory",
            "makeFile 0 0 48 = 0;", "link 0 # 49 0");
        Script.run("5 of several exceptions link throws the first one",
            "makeFile 0 0 0 = 0; makeFile 0 0 1 = 1; remove 0 0 1 = 1",
            "link 4 1 2 0 = IAE; link 0 1 50 0 = IAE; link 4 0 2 2 = IAE; link 0 0 50 2 = IAE",
            "link 4 0 2 1 = IAE; link 0 0 -1 1 = IAE; link 4 0 0 0 = IAE",
            "link 0 1 0 2 = IOOBE; link 0 0 0 2 = IOOBE; link 0 0 0 1 = IOOBE; link 0 0 0 0 = ISE",
            "beginMove 0 0 1 = ok; link 4 0 2 0 = IAE; link 0 0 50 0 = IAE; link 0 0 2 2 = IOOBE",
            "link 0 0 2 1 = IOOBE; link 0 1 2 0 = IOOBE; link 0 0 2 0 = ISE; load 0 = 3");
    }

    private static void files() {
        Script.range("5 link throws IndexOutOfBoundsException if there is no such file",
            Script.files(3), "link 0 0 49 #", 0, 2, "IOOBE");
        Script.range("5 link throws IndexOutOfBoundsException if there is no such file, of 30",
            Script.files(30), "link 0 0 49 #", 0, 29, "IOOBE");
        Script.run("5 what stands for free or for a directory is no file",
            "makeDirectory 0 0 0 = 1; makeFile 0 0 1 = 0; link 0 0 2 -3 = IOOBE",
            "link 0 0 2 -2 = IOOBE; link 0 0 2 -1 = IOOBE; link 0 0 2 1 = IOOBE");
        Script.run("5 link throws IndexOutOfBoundsException if the file is gone",
            "makeFile 0 0 0 = 0; makeFile 0 0 1 = 1; link 0 0 2 0 = 2; remove 0 0 0 = 0",
            "link 0 0 0 0 = 2; remove 0 0 0 = 0; remove 0 0 2 = 0; link 0 0 0 0 = IOOBE",
            "link 0 0 0 1 = 2; link 0 0 2 0 = IOOBE");
    }

    private static void states() {
        Script.run("5 link throws IllegalStateException if the name is not free",
            "makeFile 0 0 0 = 0; makeFile 0 0 1 = 1; makeDirectory 0 0 2 = 1; link 0 0 3 0 = 2",
            "link 0 0 0 0 = ISE; link 0 0 1 0 = ISE; link 0 0 2 0 = ISE; link 0 0 3 0 = ISE",
            "links 0 = 2; links 1 = 1; remove 0 0 1 = 1; link 0 0 1 0 = 3; link 0 0 4 0 = 4");
        Script.run("5 link throws IllegalStateException if the name's fragment is frozen",
            "makeFile 0 0 0 = 0; makeDirectory 0 0 1 = 1; makeDirectory 0 1 0 = 2; split 1 0 = 2",
            "beginMove 1 3 3 = ok; link 0 1 1 0 = ISE; link 0 2 0 0 = ISE; link 0 1 2 0 = 2",
            "stepMove = 1; link 0 1 1 0 = ISE; giveUpMove = 1; link 0 1 1 0 = 3; link 0 2 0 0 = 4");
        Script.run("5 the file may have its links in frozen fragments",
            "split 0 0 = 2; makeFile 0 0 0 = 0; beginMove 0 3 1 = ok; link 0 0 1 0 = ISE",
            "link 0 0 2 0 = 2; anchor 0 = 0");
    }
}

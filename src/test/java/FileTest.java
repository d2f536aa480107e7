/** Promises 23 to 26: files, and the plain tree. */
public final class FileTest {
    public static void main(String[] args) {
        links();
        anchor();
        anchorGoesOver();
        byTree();
        size();
        Script.end();
    }

    private static void links() {
        Script.run("23 links answers how many links a file has",
            "makeFile 0 0 0 = 0; links 0 = 1; link 0 0 1 0 = 2; links 0 = 2",
            "makeFile 0 0 2 = 1; links 1 = 1; links 0 = 2; rename 0 0 0 0 3 = ok; links 0 = 2",
            "remove 0 0 3 = 0; links 0 = 1; makeDirectory 0 0 4 = 1; link 0 1 4 0 = 2; links 0 = 2");
        StringBuilder all = new StringBuilder();
        for (int name = 1; name < 50; name++) {
            all.append("link 0 0 " + name + " 0 = " + (name + 1) + ";");
        }
        Script.run("23 a file may have a link at each name of a directory",
            "makeFile 0 0 0 = 0;", all.toString(), "links 0 = 50; size 0 = 50; link 0 0 7 0 = ISE",
            "remove 0 0 49 = 0; links 0 = 49; remove 0 0 0 = 0; links 0 = 48; anchor 0 = 1");
        Script.run("23 links answers 0 if the file is gone",
            "makeFile 0 0 0 = 0; link 0 0 1 0 = 2; remove 0 0 0 = 0; links 0 = 1",
            "remove 0 0 1 = 0; links 0 = 0; makeFile 0 0 0 = 1; links 0 = 0; links 1 = 1");
        Script.range("23 links throws IndexOutOfBoundsException if there never was such a file",
            Script.files(1), "links #", 0, 0, "IOOBE");
        Script.range("23 links throws IndexOutOfBoundsException for a file beyond 30",
            Script.files(30), "links #", 0, 29, "IOOBE");
        Script.run("23 neither free names nor directories are files",
            "makeDirectory 0 0 0 = 1; links -3 = IOOBE; links 0 = IOOBE; links 1 = IOOBE",
            "makeFile 0 1 0 = 0; links 0 = 1; links 1 = IOOBE");
    }

    private static void anchor() {
        Script.run("24 anchor answers 100 times the directory, plus the name",
            Script.chain(11, 0), "makeFile 0 11 49 = 0; anchor 0 = 1149; makeFile 0 0 49 = 1",
            "anchor 1 = 49; makeFile 0 11 0 = 2; anchor 2 = 1100; rename 0 0 49 0 1 = ok",
            "anchor 1 = 1");
        Script.run("24 the anchor is 0 for the name 0 of the root", "makeFile 0 0 0 = 0; anchor 0 = 0");
        Script.run("24 the anchor is the oldest link",
            "makeDirectory 0 0 9 = 1; makeFile 0 1 7 = 0; anchor 0 = 107",
            "link 0 0 3 0 = 2; link 0 0 1 0 = 3; link 0 1 0 0 = 4; anchor 0 = 107",
            "remove 0 1 7 = 0; anchor 0 = 3; remove 0 0 3 = 0; anchor 0 = 1; link 0 0 0 0 = 3",
            "anchor 0 = 1; remove 0 0 1 = 0; anchor 0 = 100; remove 0 1 0 = 0; anchor 0 = 0");
        Script.run("24 anchor answers -1 if the file is gone",
            "makeFile 0 0 0 = 0; link 0 0 1 0 = 2; remove 0 0 0 = 0; anchor 0 = 1",
            "remove 0 0 1 = 0; anchor 0 = -1; makeFile 0 0 1 = 1; anchor 0 = -1; anchor 1 = 1");
        Script.range("24 anchor throws IndexOutOfBoundsException if there never was such a file",
            Script.files(1), "anchor #", 0, 0, "IOOBE");
        Script.range("24 anchor throws IndexOutOfBoundsException for a file beyond 30",
            Script.files(30), "anchor #", 0, 29, "IOOBE");
    }

    private static void anchorGoesOver() {
        Script.run("24 a link that is renamed stays as old as it is",
            "makeFile 0 0 5 = 0; link 0 0 1 0 = 2; rename 0 0 5 0 9 = ok; anchor 0 = 9",
            "makeDirectory 0 0 0 = 1; rename 0 0 9 1 2 = ok; anchor 0 = 102",
            "rename 0 0 1 0 2 = ok; anchor 0 = 102; link 0 0 1 0 = 3; remove 0 1 2 = 0",
            "anchor 0 = 2; rename 0 0 2 1 49 = ok; anchor 0 = 149; remove 0 1 49 = 0; anchor 0 = 1");
        Script.run("24 the anchor goes by the directory's number, wherever it stands",
            "makeDirectory 0 0 0 = 1; makeDirectory 0 0 1 = 2; makeFile 0 2 3 = 0; anchor 0 = 203",
            "rename 0 0 1 1 4 = ok; anchor 0 = 203; makeFile 0 1 3 = 1; anchor 1 = 103");
        Script.run("24 a link that is made again is the youngest",
            "makeFile 0 0 5 = 0; link 0 0 6 0 = 2; remove 0 0 5 = 0; link 0 0 5 0 = 2",
            "anchor 0 = 6");
        Script.run("24 links of other files are no links of this one",
            "makeFile 0 0 5 = 0; makeFile 0 0 6 = 1; makeFile 0 0 1 = 2; anchor 0 = 5; anchor 1 = 6",
            "anchor 2 = 1");
    }

    private static void byTree() {
        Script.run("25 byTree answers what lookup does, without leases and loads",
            "byTree 0 0 = -1; makeFile 0 0 0 = 0; makeDirectory 0 0 1 = 1; makeDirectory 0 1 1 = 2",
            "byTree 0 0 = 0; byTree 0 1 = -3; byTree 1 1 = -4; byTree 2 0 = -1; load 0 = 3",
            "leases 0 = 0; leases 3 = 0; known 0 = 0; rename 0 0 0 2 49 = ok; byTree 2 49 = 0",
            "byTree 0 0 = -1; remove 0 2 49 = 0; byTree 2 49 = -1; lookup 0 2 49 = -1",
            "byTree 2 49 = -1; known 0 = 0");
        Script.range("25 byTree throws IllegalArgumentException if name is out of range",
            "", "byTree 0 #", 0, 49, "IAE");
        Script.noSuchDirectory(
            "25 byTree throws IndexOutOfBoundsException if there is no such directory",
            "", "byTree # 0");
        Script.run("25 of several exceptions byTree throws the first one",
            "byTree 1 50 = IAE; byTree -1 -1 = IAE; byTree 12 50 = IAE");
    }

    private static void size() {
        Script.run("26 size answers how many names stand for something",
            "size 0 = 0; makeFile 0 0 0 = 0; size 0 = 1; link 0 0 1 0 = 2; size 0 = 2",
            "makeDirectory 0 0 2 = 1; size 0 = 3; size 1 = 0; makeFile 0 1 0 = 1; size 0 = 3",
            "size 1 = 1; rename 0 1 0 0 5 = ok; size 0 = 4; size 1 = 0; rename 0 0 5 0 6 = ok",
            "size 0 = 4; remove 0 0 2 = -3; size 0 = 3; lookup 0 0 40 = -1; size 0 = 3");
        StringBuilder full = new StringBuilder(Script.files(30));
        for (int name = 30; name < 40; name++) {
            full.append("makeDirectory 0 0 " + name + " = " + (name - 29) + ";");
        }
        for (int name = 40; name < 50; name++) {
            full.append("link 0 0 " + name + " " + (name - 40) + " = 2;");
        }
        Script.run("26 a directory is full with 50 names",
            full.toString(), "size 0 = 50; makeFile 0 0 0 = ISE; makeDirectory 0 0 49 = ISE",
            "link 0 0 20 1 = ISE; rename 0 0 0 0 49 = ISE; remove 0 0 49 = 9; size 0 = 49",
            "makeDirectory 0 0 49 = 11; size 0 = 50; size 11 = 0");
        Script.noSuchDirectory(
            "26 size throws IndexOutOfBoundsException if there is no such directory",
            "", "size #");
    }
}

/** Promises 23 to 26: files, and the plain tree. */
public final class FileCallsTest {
    private static final String A = "throws.IllegalArgumentException";
    private static final String I = "throws.IndexOutOfBoundsException";
    private static final String S = "throws.IllegalStateException";

    public static void main(String[] args) {
        links();
        anchor();
        byTree();
        size();
        Script.end();
    }

    private static void links() {
        Script.run("23 links",
            "links 0 = " + I + "; makeFile 0 0 0 = 0; links 0 = 1; link 0 0 1 0 = 2; links 0 = 2",
            "makeFile 0 0 2 = 1; links 1 = 1; links 0 = 2; rename 0 0 0 0 3 = ok; links 0 = 2",
            "remove 0 0 3 = 0; links 0 = 1; remove 0 0 1 = 0; links 0 = 0; links 1 = 1",
            "makeFile 0 0 0 = 2; links 0 = 0; links 2 = 1; links 3 = " + I + "; links -1 = " + I,
            "links -2 = " + I + "; links 30 = " + I + "; links 2147483647 = " + I);
        Script.run("23 neither free names nor directories are links",
            "makeDirectory 0 0 0 = 1; links -3 = " + I + "; links 0 = " + I + "; makeFile 0 1 0 = 0",
            "links 0 = 1");
    }

    private static void anchor() {
        Script.run("24 the anchor is the oldest link",
            "anchor 0 = " + I + "; makeDirectory 0 0 9 = 1; makeFile 0 1 7 = 0; anchor 0 = 107",
            "link 0 0 3 0 = 2; link 0 0 1 0 = 3; link 0 1 0 0 = 4; anchor 0 = 107",
            "remove 0 1 7 = 0; anchor 0 = 3; remove 0 0 3 = 0; anchor 0 = 1; link 0 0 0 0 = 3",
            "anchor 0 = 1; remove 0 0 1 = 0; anchor 0 = 100; remove 0 1 0 = 0; anchor 0 = 0",
            "remove 0 0 0 = 0; anchor 0 = -1; anchor 1 = " + I + "; anchor -1 = " + I,
            "anchor 30 = " + I + "; anchor -2147483648 = " + I);
        Script.run("24 a link that is renamed stays as old as it is",
            "makeFile 0 0 5 = 0; link 0 0 1 0 = 2; rename 0 0 5 0 9 = ok; anchor 0 = 9",
            "makeDirectory 0 0 0 = 1; rename 0 0 9 1 2 = ok; anchor 0 = 102",
            "rename 0 0 1 0 2 = ok; anchor 0 = 102; link 0 0 1 0 = 3; remove 0 1 2 = 0",
            "anchor 0 = 2; rename 0 0 2 1 49 = ok; anchor 0 = 149; remove 0 1 49 = 0; anchor 0 = 1");
        Script.run("24 the anchor goes by the directory's number, wherever it stands",
            "makeDirectory 0 0 0 = 1; makeDirectory 0 0 1 = 2; makeFile 0 2 3 = 0; anchor 0 = 203",
            "rename 0 0 1 1 4 = ok; anchor 0 = 203; makeFile 0 1 3 = 1; anchor 1 = 103");
        Script.run("24 a link that is made again is the youngest",
            "makeFile 0 0 5 = 0; link 0 0 6 0 = 2; remove 0 0 5 = 0; link 0 0 5 0 = 2",
            "anchor 0 = 6");
    }

    private static void byTree() {
        Script.run("25 byTree answers as lookup does, without leases and loads",
            "byTree 0 0 = -1; makeFile 0 0 0 = 0; makeDirectory 0 0 1 = 1; makeDirectory 0 1 1 = 2",
            "byTree 0 0 = 0; byTree 0 1 = -3; byTree 1 1 = -4; byTree 2 0 = -1; load 0 = 3",
            "leases 0 = 0; leases 3 = 0; known 0 = 0; rename 0 0 0 2 49 = ok; byTree 2 49 = 0",
            "byTree 0 0 = -1; remove 0 2 49 = 0; byTree 2 49 = -1; lookup 0 2 49 = -1",
            "byTree 2 49 = -1; known 0 = 0");
        Script.run("25 byTree throws, the first one of its clause",
            "byTree 0 -1 = " + A + "; byTree 0 50 = " + A + "; byTree 1 0 = " + I,
            "byTree -1 0 = " + I + "; byTree 1 50 = " + A + "; makeDirectory 0 0 0 = 1",
            "byTree 1 0 = -1; remove 0 0 0 = -3; byTree 1 0 = " + I);
    }

    private static void size() {
        StringBuilder fill = new StringBuilder("makeFile 0 0 0 = 0;");
        for (int name = 1; name < 50; name++) {
            fill.append("link 0 0 ").append(name).append(" 0 = ").append(name + 1).append(';');
        }
        Script.run("26 a full directory", fill.toString(),
            "size 0 = 50; links 0 = 50; anchor 0 = 0; makeFile 0 0 7 = " + S,
            "remove 0 0 0 = 0; size 0 = 49; anchor 0 = 1");
        Script.run("26 size",
            "size 0 = 0; makeFile 0 0 0 = 0; size 0 = 1; link 0 0 1 0 = 2; size 0 = 2",
            "makeDirectory 0 0 2 = 1; size 0 = 3; size 1 = 0; makeFile 0 1 0 = 1; size 0 = 3",
            "size 1 = 1; rename 0 1 0 0 5 = ok; size 0 = 4; size 1 = 0; rename 0 0 5 0 6 = ok",
            "size 0 = 4; remove 0 0 2 = -3; size 0 = 3; size 1 = " + I + "; size 2 = " + I,
            "size -1 = " + I + "; size 12 = " + I + "; size 2147483647 = " + I);
    }
}

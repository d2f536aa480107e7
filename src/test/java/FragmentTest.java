/** Promises 12 to 14: split, merge and fragments. */
public final class FragmentTest {
    public static void main(String[] args) {
        split();
        splitLoads();
        splitLoadsOfSmallParts();
        splitThrows();
        merge();
        mergeLoads();
        mergeThrows();
        mergeOwners();
        mergeFrozen();
        fragments();
        Script.end();
    }

    private static void split() {
        Script.run("12 split answers how many fragments the directory has then, up to eight",
            "split 0 7 = 2; split 0 7 = 3; split 0 7 = 4; split 0 5 = 5; split 0 0 = 6",
            "split 0 1 = 7; split 0 2 = 8; fragments 0 = 8; makeDirectory 0 0 0 = 1",
            "split 1 0 = 2; split 1 4 = 3; fragments 0 = 8");
        for (int hash = 0; hash < 8; hash++) {
            StringBuilder alone = new StringBuilder("........");
            alone.setCharAt(hash, '*');
            Script.run("12 a fragment is split by any hash that is in it",
                "split 0 " + hash + " = 2; split 0 " + hash + " = 3; split 0 " + hash + " = 4",
                "beginMove 0 " + hash + " 1 = ok;", Script.frozen(0, alone.toString()));
        }
        Script.run("12 a fragment of size 8 is split into two of 4, of 4 into 2, of 2 into 1",
            "split 0 0 = 2; beginMove 0 0 1 = ok;", Script.frozen(0, "****...."),
            "giveUpMove = 0; split 0 7 = 3; beginMove 0 4 1 = ok;", Script.frozen(0, "....**.."),
            "giveUpMove = 0; beginMove 0 7 1 = ok;", Script.frozen(0, "......**"),
            "giveUpMove = 0; split 0 6 = 4; beginMove 0 6 1 = ok;", Script.frozen(0, "......*."),
            "giveUpMove = 0; beginMove 0 7 1 = ok;", Script.frozen(0, ".......*"),
            "giveUpMove = 0; beginMove 0 3 1 = ok;", Script.frozen(0, "****...."));
        Script.run("12 both halves have the owner",
            "makeDirectory 0 0 0 = 1; split 1 0 = 2;", Script.owners(1, "--------"),
            Script.move(1, 4, 3), "split 1 6 = 3;", Script.owners(1, "----3333"),
            "split 1 7 = 4;", Script.owners(1, "----3333"), "split 1 0 = 5;",
            Script.owners(1, "----3333"), "serverOf 1 2 = 3; serverOf 1 0 = 0");
    }

    private static void splitLoads() {
        Script.run("12 a load of 0 is halved to 0 and 0",
            "split 0 0 = 2;", Script.move(0, 4, 1), Script.loads(0, 0, 0, 0));
        Script.run("12 a load of 1 is halved to 1 and 0, rounded up for the first half",
            Script.asked(0, 7, 1), "split 0 0 = 2;", Script.move(0, 4, 1), Script.loads(1, 0, 0, 0));
        Script.run("12 a load of 2 is halved to 1 and 1",
            Script.asked(0, 7, 2), "split 0 0 = 2;", Script.move(0, 4, 1), Script.loads(1, 1, 0, 0));
        Script.run("12 a load of 3 is halved to 2 and 1, rounded up for the first half",
            Script.asked(0, 7, 3), "split 0 0 = 2;", Script.move(0, 4, 1), Script.loads(2, 1, 0, 0));
        Script.run("12 a load of 4 is halved to 2 and 2",
            Script.asked(0, 0, 4), "split 0 0 = 2;", Script.move(0, 4, 1), Script.loads(2, 2, 0, 0));
    }

    private static void splitLoadsOfSmallParts() {
        Script.run("12 a load of 5 is halved to 3 and 2, and 3 to 2 and 1",
            Script.asked(0, 0, 4), Script.asked(0, 1, 1), "split 0 0 = 2;", Script.move(0, 7, 1),
            Script.loads(3, 2, 0, 0), "split 0 0 = 3;", Script.move(0, 1, 2),
            Script.loads(1, 2, 2, 0), "split 0 0 = 4;", Script.move(0, 1, 3),
            Script.loads(1, 2, 1, 1));
        Script.run("12 in a second half too the first one of both gets more",
            Script.asked(0, 0, 4), Script.asked(0, 1, 2), "split 0 0 = 2; split 0 4 = 3;",
            Script.move(0, 5, 1), Script.move(0, 6, 2), Script.loads(3, 2, 1, 0),
            "split 0 4 = 4;", Script.move(0, 5, 3), Script.loads(3, 1, 1, 1));
        Script.run("12 a split leaves the other fragments' loads alone",
            "split 0 0 = 2;", Script.asked(0, 7, 3), "split 0 0 = 3;", Script.move(0, 7, 1),
            Script.loads(0, 3, 0, 0));
    }

    private static void splitThrows() {
        Script.range("12 split throws IllegalArgumentException if hash is out of range",
            "", "split 0 #", 0, 7, "IAE");
        Script.noSuchDirectory(
            "12 split throws IndexOutOfBoundsException if there is no such directory",
            "", "split # 0");
        Script.run("12 split throws IllegalStateException if the size is 1, not if it is 2",
            "split 0 7 = 2; split 0 7 = 3; split 0 7 = 4; split 0 7 = ISE; split 0 6 = ISE",
            "split 0 5 = 5; split 0 4 = ISE; split 0 5 = ISE; split 0 0 = 6; split 0 1 = 7",
            "split 0 0 = ISE; split 0 1 = ISE; split 0 2 = 8; split 0 2 = ISE; split 0 3 = ISE");
        Script.run("12 split throws IllegalStateException if the fragment is frozen",
            "makeDirectory 0 0 0 = 1; beginMove 0 0 1 = ok; split 0 0 = ISE; split 0 7 = ISE",
            "stepMove = 1; split 0 0 = ISE; giveUpMove = 1; split 0 0 = 2; beginMove 0 0 1 = ok",
            "split 0 3 = ISE; split 0 4 = 3; stepMove = 1; stepMove = 2; split 0 3 = 4");
        Script.run("12 split throws IllegalStateException if the fragment inherits from a frozen one",
            "makeDirectory 0 0 0 = 1; makeDirectory 0 1 0 = 2; beginMove 0 0 1 = ok; split 1 0 = ISE",
            "split 2 0 = ISE; giveUpMove = 0; split 1 0 = 2; beginMove 1 0 1 = ok; split 1 3 = ISE",
            "split 2 0 = ISE; split 1 4 = 3; split 0 0 = 2; giveUpMove = 0; split 2 0 = 2");
        Script.run("12 of several exceptions split throws the first one",
            "split 1 8 = IAE; split 1 -1 = IAE; split -1 8 = IAE; beginMove 0 0 1 = ok",
            "split 0 8 = IAE; split 1 0 = IOOBE; fragments 0 = 1");
    }

    private static void merge() {
        Script.run("13 merge answers how many fragments the directory has then",
            Script.eight(0), "merge 0 0 = 7; merge 0 3 = 6; merge 0 4 = 5; merge 0 7 = 4",
            "merge 0 0 = 3; merge 0 4 = 2; merge 0 0 = 1; fragments 0 = 1; split 0 3 = 2",
            "merge 0 0 = 1");
        Script.run("13 two fragments are merged by any hash of the one or the other",
            "split 0 0 = 2; merge 0 0 = 1; split 0 0 = 2; merge 0 3 = 1; split 0 0 = 2",
            "merge 0 4 = 1; split 0 0 = 2; merge 0 7 = 1; split 0 0 = 2; split 0 4 = 3",
            "merge 0 4 = 2; split 0 4 = 3; merge 0 5 = 2; split 0 4 = 3; merge 0 6 = 2",
            "split 0 4 = 3; merge 0 7 = 2; beginMove 0 4 1 = ok;", Script.frozen(0, "....****"));
        Script.run("13 the first one begins at a multiple of twice the size",
            "split 0 0 = 2; split 0 0 = 3; split 0 4 = 4; merge 0 2 = 3; beginMove 0 0 1 = ok;",
            Script.frozen(0, "****...."), "giveUpMove = 0; split 0 0 = 4; merge 0 5 = 3",
            "beginMove 0 2 1 = ok;", Script.frozen(0, "..**...."), "giveUpMove = 0",
            "beginMove 0 7 1 = ok;", Script.frozen(0, "....****"));
        Script.run("13 fragments of size 1 are merged likewise",
            Script.eight(0), "merge 0 1 = 7; beginMove 0 0 1 = ok;", Script.frozen(0, "**......"),
            "giveUpMove = 0; merge 0 6 = 6; beginMove 0 7 1 = ok;", Script.frozen(0, "......**"),
            "giveUpMove = 0; beginMove 0 2 1 = ok;", Script.frozen(0, "..*....."));
    }

    private static void mergeLoads() {
        Script.run("13 the load of the merged one is that of both",
            "split 0 0 = 2;", Script.asked(0, 0, 3), Script.asked(0, 7, 4), "merge 0 7 = 1",
            "load 0 = 7; split 0 0 = 2;", Script.move(0, 4, 1), Script.loads(4, 3, 0, 0));
        Script.run("13 what split rounded up and down is whole again",
            Script.asked(0, 0, 3), "split 0 0 = 2; merge 0 0 = 1; load 0 = 3; split 0 0 = 2",
            "split 0 0 = 3; merge 0 0 = 2;", Script.move(0, 4, 1), Script.loads(2, 1, 0, 0));
        Script.run("13 a merge leaves the other fragments' loads alone",
            "split 0 0 = 2; split 0 0 = 3;", Script.asked(0, 7, 2), Script.asked(0, 0, 1),
            "merge 0 2 = 2;", Script.move(0, 0, 1), Script.loads(2, 1, 0, 0));
    }

    private static void mergeThrows() {
        Script.range("13 merge throws IllegalArgumentException if hash is out of range",
            "split 0 0 = 2", "merge 0 #", 0, 7, "IAE");
        Script.noSuchDirectory(
            "13 merge throws IndexOutOfBoundsException if there is no such directory",
            "split 0 0 = 2; split 10 0 = 2;", "merge # 0");
        Script.run("13 merge throws IllegalStateException if the size is 8",
            "merge 0 0 = ISE; merge 0 7 = ISE; split 0 0 = 2; merge 0 0 = 1; merge 0 0 = ISE");
        Script.run("13 merge throws IllegalStateException if the other half has been split",
            "split 0 0 = 2; split 0 0 = 3; merge 0 4 = ISE; merge 0 7 = ISE; split 0 2 = 4",
            "merge 0 0 = ISE; merge 0 1 = ISE; merge 0 4 = ISE; merge 0 3 = 3; merge 0 7 = ISE",
            "merge 0 2 = 2; merge 0 7 = 1");
        Script.run("13 merge throws IllegalStateException if the first half has been split",
            "split 0 0 = 2; split 0 4 = 3; merge 0 0 = ISE; merge 0 3 = ISE; split 0 4 = 4",
            "merge 0 6 = ISE; merge 0 7 = ISE; merge 0 5 = 3; merge 0 0 = ISE; merge 0 6 = 2",
            "merge 0 0 = 1");
        Script.run("13 of several exceptions merge throws the first one",
            "merge 1 8 = IAE; merge 1 -1 = IAE; merge 0 8 = IAE; merge 1 0 = IOOBE",
            "split 0 0 = 2; beginMove 0 0 1 = ok; merge 0 -1 = IAE; merge 1 0 = IOOBE");
    }

    private static void mergeOwners() {
        Script.run("13 merge throws IllegalStateException if the owners are unlike",
            "split 0 0 = 2;", Script.move(0, 4, 1), "merge 0 0 = ISE; merge 0 7 = ISE;",
            Script.move(0, 0, 2), "merge 0 0 = ISE; merge 0 7 = ISE;", Script.move(0, 0, 1),
            "merge 0 7 = 1;", Script.owners(0, "11111111"));
        Script.run("13 an owner and none are unlike owners, though the server is the same one",
            "makeDirectory 0 0 0 = 1; split 1 0 = 2;", Script.move(1, 0, 1), "merge 1 0 = ISE",
            "merge 1 7 = ISE;", Script.move(1, 0, 0), "serverOf 1 0 = 0; serverOf 1 2 = 0;",
            Script.owners(1, "0000----"), "merge 1 0 = ISE; merge 1 4 = ISE;",
            Script.move(1, 4, 1), Script.move(1, 4, 0), "merge 1 4 = 1;",
            Script.owners(1, "00000000"));
        Script.run("13 two without an owner are alike",
            "makeDirectory 0 0 0 = 1; split 1 0 = 2; merge 1 4 = 1;", Script.owners(1, "--------"));
    }

    private static void mergeFrozen() {
        Script.run("13 merge throws IllegalStateException if the first one is frozen",
            "split 0 0 = 2; beginMove 0 0 1 = ok; merge 0 0 = ISE; merge 0 7 = ISE; stepMove = 1",
            "merge 0 0 = ISE; merge 0 4 = ISE; giveUpMove = 1; merge 0 0 = 1");
        Script.run("13 merge throws IllegalStateException if the second one is frozen",
            "split 0 0 = 2; beginMove 0 4 1 = ok; merge 0 0 = ISE; merge 0 7 = ISE; stepMove = 1",
            "merge 0 3 = ISE; merge 0 4 = ISE; giveUpMove = 1; merge 0 7 = 1");
        Script.run("13 merge throws IllegalStateException if both inherit from a frozen one",
            "makeDirectory 0 0 0 = 1; split 1 0 = 2; beginMove 0 0 2 = ok; merge 1 0 = ISE",
            "giveUpMove = 0; merge 1 0 = 1");
        Script.run("13 two that are not frozen are merged while a move goes on",
            "split 0 0 = 2; split 0 0 = 3; split 0 4 = 4; beginMove 0 0 1 = ok; merge 0 6 = 3",
            "merge 0 2 = ISE");
    }

    private static void fragments() {
        Script.run("14 fragments answers how many a directory has, 1 to 8",
            "fragments 0 = 1; split 0 0 = 2; fragments 0 = 2; makeDirectory 0 0 0 = 1",
            "fragments 1 = 1; split 1 0 = 2; split 1 0 = 3; fragments 1 = 3; fragments 0 = 2",
            "merge 1 0 = 2; fragments 1 = 2; makeDirectory 0 0 1 = 2;", Script.eight(2),
            "fragments 2 = 8; fragments 1 = 2; fragments 0 = 2");
        Script.noSuchDirectory(
            "14 fragments throws IndexOutOfBoundsException if there is no such directory",
            "", "fragments #");
    }
}

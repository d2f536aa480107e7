/** Promise 2: lookup. */
public final class LookupTest {
    public static void main(String[] args) {
        answers();
        leases();
        throwing();
        Script.end();
    }

    private static void answers() {
        Script.run("2 lookup answers the file that the name is a link to",
            Script.files(30), "lookup 0 0 0 = 0; lookup 1 0 29 = 29; link 0 0 49 7 = 2",
            "lookup 2 0 49 = 7; lookup 3 0 7 = 7");
        Script.run("2 lookup answers -2 less the directory that the name stands for",
            Script.directories(10), "makeDirectory 0 1 49 = 11; lookup 0 0 0 = -3",
            "lookup 1 0 9 = -12; lookup 2 1 49 = -13");
        Script.run("2 lookup answers -1 if the name is free",
            "lookup 0 0 0 = -1; lookup 0 0 49 = -1; makeFile 1 0 0 = 0; lookup 0 0 0 = 0",
            "remove 1 0 0 = 0; lookup 0 0 0 = -1; makeDirectory 1 0 49 = 1; lookup 0 0 49 = -3",
            "remove 1 0 49 = -3; lookup 0 0 49 = -1");
        Script.run("2 lookup looks into the directory that is given",
            "makeFile 0 0 3 = 0; makeFile 0 0 4 = 1; makeDirectory 0 0 5 = 1",
            "makeDirectory 0 1 5 = 2; lookup 1 0 3 = 0; lookup 1 0 4 = 1",
            "lookup 2 0 5 = -3; lookup 3 1 5 = -4; lookup 0 2 49 = -1; lookup 0 0 0 = -1");
    }

    private static void leases() {
        Script.run("2 without a lease that runs lookup asks the server and gets one",
            "lookup 1 0 5 = -1; load 0 = 1; leases 1 = 1; known 1 = 0; leases 0 = 0",
            "lookup 2 0 5 = -1; load 0 = 2; leases 2 = 1; known 2 = 0; known 1 = 0",
            "lookup 1 0 6 = -1; load 0 = 3; leases 1 = 2; known 1 = 0");
        Script.run("2 with a lease that runs lookup asks no server",
            "lookup 1 0 5 = -1; lookup 1 0 5 = -1; load 0 = 1; leases 1 = 1; known 1 = 1");
        Script.run("2 what a lease tells is what stands there now",
            "lookup 0 0 3 = -1; makeFile 0 0 3 = 0; lookup 0 0 3 = 0; lookup 0 0 3 = 0",
            "remove 1 0 3 = 0; lookup 0 0 3 = -1; known 0 = 1");
    }

    private static void throwing() {
        Script.range("2 lookup throws IllegalArgumentException if client is out of range",
            "", "lookup # 0 0", 0, 3, "IAE");
        Script.range("2 lookup throws IllegalArgumentException if name is out of range",
            "", "lookup 0 0 #", 0, 49, "IAE");
        Script.noSuchDirectory(
            "2 lookup throws IndexOutOfBoundsException if there is no such directory",
            "", "lookup 0 # 0");
        Script.run("2 of several exceptions lookup throws the first one",
            "lookup 4 1 0 = IAE; lookup 0 1 50 = IAE; lookup -1 -1 -1 = IAE; load 0 = 0");
    }
}

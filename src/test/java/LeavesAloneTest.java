import java.util.ArrayList;
import java.util.List;

/**
 * What a call that answers leaves as it was: all that the rows do not name. What the state holds
 * beside the questions is asked in the parts of Twins; a part that the call changes as a whole is
 * left out, and held by the tests of that promise.
 */
public final class LeavesAloneTest {
    private static final String MOVING = "beginMove 1 3 2";

    public static void main(String[] args) {
        lookups();
        makes();
        links();
        removes();
        renames();
        time();
        fragments();
        moves();
        movesGivenUp();
        balances();
        questions();
        Script.end();
    }

    private static void lookups() {
        changes("2 lookup that asks the server changes a lease and a load alone", "",
            "lookup 3 1 5 = 0", "leases 3 = 3; load 0 = 23",
            Twins.LEASE_ENDS, leased(3), Twins.BALANCED, Twins.LOADS);
        changes("2 lookup that asks the server changes a lease and a load alone", MOVING,
            "lookup 3 1 5 = 0", "leases 3 = 3; load 0 = 23",
            Twins.LEASE_ENDS, leased(3), Twins.MOVE_RECALLS, Twins.BALANCED, Twins.LOADS);
        changes("2 lookup of a name that the client knows changes nothing else", "",
            "lookup 1 2 7 = 2", "known 1 = 1", leased(1));
        changes("2 lookup of a name that the client knows changes nothing else", MOVING,
            "lookup 1 2 7 = 2", "known 1 = 1", leased(1));
    }

    private static void makes() {
        String empty = "size 5 = 0; fragments 5 = 1; ownerOf 5 * = -1; byTree 5 * = -1;"
            + "serverOf 5 * = 0; isFrozen 5 * = false;";
        changes("3 makeDirectory changes the name, its load and the new directory alone", "",
            "makeDirectory 1 3 28 = 5", empty + "size 3 = 1; byTree 3 28 = -7; load 0 = 23",
            Twins.BALANCED, Twins.NUMBERS, Twins.LOADS);
        changes("3 makeDirectory changes the name, its load and the new directory alone", MOVING,
            "makeDirectory 1 0 21 = 5", empty + "size 0 = 5; byTree 0 21 = -7;"
            + "lookup * 0 21 = -7; load 0 = 23; leases 2 = 2; recalls 2 = 1", Twins.LEASE_ENDS,
            leased(2), Twins.MOVE_RECALLS, Twins.BALANCED, Twins.NUMBERS, Twins.LOADS);
        changes("4 makeFile changes the name, its load and the new file alone", "",
            "makeFile 0 0 21 = 4", "size 0 = 5; byTree 0 21 = 4; lookup * 0 21 = 4; load 0 = 23;"
            + "links 4 = 1; anchor 4 = 21; leases 2 = 2; recalls 2 = 1",
            Twins.LEASE_ENDS, leased(2), Twins.BALANCED, Twins.NUMBERS, Twins.LOADS);
        changes("4 makeFile changes the name, its load and the new file alone", MOVING,
            "makeFile 0 3 40 = 4", "size 3 = 1; byTree 3 40 = 4; load 2 = 2; links 4 = 1;"
            + "anchor 4 = 340", Twins.BALANCED, Twins.NUMBERS, Twins.LOADS);
    }

    private static void links() {
        changes("5 link changes the name, its load and the links of the file alone", "",
            "link 3 2 30 2 = 2", "size 2 = 3; byTree 2 30 = 2; links 2 = 2; load 0 = 23",
            Twins.BALANCED, Twins.LOADS);
        changes("5 link changes the name, its load and the links of the file alone", MOVING,
            "link 0 0 20 2 = 2", "size 0 = 5; byTree 0 20 = 2; lookup * 0 20 = 2; links 2 = 2;"
            + "load 0 = 23; leases 2 = 2; recalls 2 = 1",
            Twins.LEASE_ENDS, leased(2), Twins.MOVE_RECALLS, Twins.BALANCED, Twins.LOADS);
    }

    private static void removes() {
        changes("6 remove of a link changes the name, its load and the file alone", "",
            "remove 1 1 5 = 0", "size 1 = 1; byTree 1 5 = -1; lookup * 1 5 = -1; links 0 = 2;"
            + "load 0 = 23", Twins.BALANCED, Twins.AGES, Twins.LOADS);
        changes("6 remove of a link changes the name, its load and the file alone", MOVING,
            "remove 1 0 13 = 3", "size 0 = 3; byTree 0 13 = -1; lookup * 0 13 = -1; links 3 = 0;"
            + "anchor 3 = -1; load 0 = 23", Twins.BALANCED, Twins.LOADS);
        for (String more : new String[] {"", MOVING}) {
            changes("6 remove of a directory changes the name, its load and the directory alone",
                more, "remove 0 0 4 = -5", "size 0 = 3; byTree 0 4 = -1; lookup * 0 4 = -1;"
                + "size 3 = IOOBE; fragments 3 = IOOBE; ownerOf 3 * = IOOBE; byTree 3 * = IOOBE;"
                + "serverOf 3 * = IOOBE; isFrozen 3 * = IOOBE; lookup * 3 * = IOOBE; leases 0 = 1;"
                + "load 0 = 23; load 2 = 0",
                Twins.LEASE_ENDS, leased(0), Twins.BALANCED, Twins.NUMBERS, Twins.LOADS);
        }
    }

    private static void renames() {
        changes("7 rename of a link changes both names, their loads and the anchor alone", "",
            "rename 1 0 0 1 30 = ok", "size 0 = 3; size 1 = 3; byTree 0 0 = -1; byTree 1 30 = 0;"
            + "lookup * 0 0 = -1; anchor 0 = 130; leases 0 = 1; leases 1 = 2; recalls 0 = 2;"
            + "load 0 = 24", Twins.LEASE_ENDS, leased(0), leased(1), Twins.BALANCED, Twins.AGES,
            Twins.LOADS);
        changes("7 rename of a link changes both names, their loads and the anchor alone", MOVING,
            "rename 1 0 13 3 30 = ok", "size 0 = 3; size 3 = 1; byTree 0 13 = -1; byTree 3 30 = 3;"
            + "lookup * 0 13 = -1; anchor 3 = 330; load 0 = 23; load 2 = 2",
            Twins.BALANCED, Twins.LOADS);
        changes("7 rename of a directory changes both names, their loads and its place alone", "",
            "rename 2 0 4 1 30 = ok", "size 0 = 3; size 1 = 3; byTree 0 4 = -1; byTree 1 30 = -5;"
            + "lookup * 0 4 = -1; load 0 = 24", Twins.BALANCED, Twins.LOADS, Twins.PLACES);
        changes("7 rename of a directory changes both names, their loads and its place alone", "",
            "rename 2 1 0 3 1 = ok", "size 1 = 1; size 3 = 1; byTree 1 0 = -1; byTree 3 1 = -4;"
            + "lookup * 1 0 = -1; lookup * 3 1 = -4; serverOf 2 * = 2; load 0 = 19; load 2 = 6;"
            + "leases 2 = 2", Twins.LEASE_ENDS, leased(2), Twins.BALANCED, Twins.LOADS,
            Twins.PLACES);
        changes("7 rename of a directory changes both names, their loads and its place alone",
            MOVING, "rename 2 0 2 0 29 = ok", "byTree 0 2 = -1; byTree 0 29 = -3;"
            + "lookup * 0 2 = -1; load 0 = 24", Twins.BALANCED, Twins.LOADS);
    }

    private static void time() {
        changes("8 pass changes the time alone while no lease ends", "", "pass 5 = 9",
            "", Twins.TIME, Twins.LEASE_ENDS);
        changes("8 pass changes the time alone while no lease ends", MOVING, "pass 5 = 9",
            "", Twins.TIME, Twins.LEASE_ENDS);
        changes("8 pass ends leases and recalls none", MOVING, "pass 6 = 10",
            "leases 0 = 1; leases 1 = 2; leases 2 = 2; leases 3 = 0", Twins.TIME,
            Twins.LEASE_ENDS, leased(0), leased(1), leased(2), leased(3), Twins.MOVE_RECALLS);
    }

    private static void fragments() {
        changes("12 split changes the fragments alone", "", "split 0 7 = 4", "fragments 0 = 4",
            Twins.LOADS, Twins.PLACES);
        changes("12 split changes the fragments alone", MOVING, "split 3 1 = 3",
            "fragments 3 = 3", Twins.LOADS);
        changes("13 merge changes the fragments alone", "", "merge 2 1 = 3", "fragments 2 = 3");
        changes("13 merge changes the fragments alone", MOVING, "merge 0 4 = 2",
            "fragments 0 = 2", Twins.BALANCED, Twins.LOADS, Twins.PLACES);
    }

    private static void moves() {
        changes("18 beginMove freezes and changes nothing else", "", "beginMove 1 3 2 = ok",
            "isFrozen 1 * = true; isFrozen 2 * = true; giveUpMove = 0", Twins.MOVE_TARGET,
            Twins.MOVE_RECALLS, Twins.MOVE_GIVEN_UP, Twins.BALANCED, Twins.PLACES);
        changes("19 the first step recalls and changes nothing else", MOVING, "stepMove = 1",
            "leases 1 = 1; leases 2 = 2; leases 3 = 1; recalls 1 = 2; recalls 2 = 1;"
            + "recalls 3 = 1; giveUpMove = 1", Twins.LEASE_ENDS, leased(1), leased(2), leased(3),
            Twins.MOVE_TARGET, Twins.MOVE_RECALLS, Twins.MOVE_GIVEN_UP, Twins.PLACES);
        String owned = "ownerOf 1 * = 2; serverOf 1 * = 2; serverOf 2 * = 2; isFrozen 1 * = false;"
            + "isFrozen 2 * = false; giveUpMove = ISE; load 0 = 14;";
        changes("19 the second step changes the owner, ends the move, and nothing else",
            MOVING + "; stepMove", "stepMove = 2", owned + "load 2 = 9", Twins.MOVE_TARGET,
            Twins.MOVE_RECALLS, Twins.BALANCED, Twins.LOADS, Twins.PLACES);
        changes("19 the second step changes the owner, ends the move, and nothing else",
            MOVING + "; stepMove; lookup 1 1 1; lookup 0 2 7", "stepMove = 2",
            owned + "load 2 = 11", Twins.MOVE_TARGET, Twins.MOVE_RECALLS, Twins.BALANCED,
            Twins.LOADS, Twins.PLACES);
    }

    private static void movesGivenUp() {
        String title = "20 giveUpMove ends the move and changes nothing else";
        String over = "isFrozen 1 * = false; isFrozen 2 * = false; giveUpMove = ISE";
        changes(title, MOVING, "giveUpMove = 0", over,
            Twins.MOVE_TARGET, Twins.MOVE_RECALLS, Twins.PLACES);
        changes(title, MOVING + "; stepMove; lookup 1 1 1", "giveUpMove = 1", over,
            Twins.MOVE_TARGET, Twins.MOVE_RECALLS, Twins.PLACES);
    }

    private static void balances() {
        StringBuilder frozen = new StringBuilder();
        for (int name = 0; name < 50; name++) {
            frozen.append("isFrozen 0 " + name + " = " + ((5 * name + 3) % 8 < 4) + ";");
        }
        changes("22 balance begins a move, halves the loads and changes nothing else", "",
            "balance = 0", frozen + "load 0 = 9; load 2 = 0; giveUpMove = 0", Twins.MOVE_TARGET,
            Twins.MOVE_RECALLS, Twins.MOVE_GIVEN_UP, Twins.BALANCED, Twins.LOADS, Twins.PLACES);
        changes("22 balance that begins no move halves the loads and changes nothing else",
            "balance; giveUpMove; balance; giveUpMove", "balance = -1", "load 0 = 1",
            Twins.BALANCED, Twins.LOADS);
    }

    private static void questions() {
        for (String more : new String[] {"", MOVING, MOVING + "; stepMove; lookup 1 1 1"}) {
            String frozen = "" + !more.isEmpty();
            changes("9 leases changes nothing", more, "leases 0 = 2", "");
            changes("10 recalls changes nothing", more, "recalls 0 = 1", "");
            changes("11 known changes nothing", more, "known 0 = 1", "");
            changes("14 fragments changes nothing", more, "fragments 0 = 3", "");
            changes("15 serverOf changes nothing", more, "serverOf 3 0 = 2", "");
            changes("15 serverOf changes nothing", more, "serverOf 2 7 = 0", "");
            changes("16 ownerOf changes nothing", more, "ownerOf 1 3 = -1", "");
            changes("17 load changes nothing", more, "load 1 = 0", "");
            changes("21 isFrozen changes nothing", more, "isFrozen 1 0 = " + frozen, "");
            changes("21 isFrozen changes nothing", more, "isFrozen 0 0 = false", "");
            changes("23 links changes nothing", more, "links 0 = 3", "");
            changes("24 anchor changes nothing", more, "anchor 0 = 0", "");
            changes("24 anchor changes nothing", more, "anchor 1 = -1", "");
            changes("25 byTree changes nothing", more, "byTree 0 0 = 0", "");
            changes("25 byTree changes nothing", more, "byTree 1 1 = -1", "");
            changes("26 size changes nothing", more, "size 0 = 4", "");
        }
    }

    private static String leased(int client) {
        return Twins.LEASED_NAMES + " of " + client;
    }

    /** Behind the row "call = answer" all is as it was, but for the rows in changed. */
    private static void changes(String title, String more, String row, String changed,
            String... leftOut) {
        List<String> before = new ArrayList<>(Script.lines(Twins.GROWN));
        before.addAll(Script.lines(more));
        int equals = row.indexOf(" = ");
        Twins.compare(title, before, row.substring(0, equals),
                Script.written(row.substring(equals + 3)), Script.lines(changed),
                List.of(leftOut));
    }
}

import java.util.ArrayList;
import java.util.List;

/**
 * Calls written as text, "lookup 0 0 3", and answers written as text: a number, true or false,
 * "ok" of a call that returns nothing, or "throws." and the name of the exception, for which rows
 * may say IAE, IOOBE or ISE.
 */
final class Script {
    static final int MOST_CALLS = 512;

    // The name that has the hash 0, that which has the hash 1, and so on.
    private static final int[] NAME_OF_HASH = {1, 6, 3, 0, 5, 2, 7, 4};

    private static int checks = 0;
    private static int wrong = 0;

    private Script() {
    }

    /** Does the rows "call = answer" one after the other on a new object. */
    static void run(String title, String... rows) {
        int calls = runOn(new DirectoryServers(), title, rows);
        due(title + " is not too long", "" + (calls <= MOST_CALLS), "true");
    }

    /** Does the rows on an object and returns how many there were. */
    static int runOn(DirectoryServers servers, String title, String... rows) {
        int calls = 0;
        for (String row : lines(rows)) {
            int equals = row.indexOf(" = ");
            String call = row.substring(0, equals).trim();
            calls++;
            due(title + ", row " + calls + ": " + call,
                    answer(servers, call), written(row.substring(equals + 3).trim()));
        }
        return calls;
    }

    /**
     * The call, with a number put for '#', throws just outside of a range and at the ends of the
     * int, and does not throw at the two ends of the range.
     */
    static void range(String title, String setup, String call, int low, int high, String thrown) {
        for (int inside : new int[] {low, high}) {
            DirectoryServers servers = new DirectoryServers();
            runOn(servers, title, setup);
            String text = call.replace("#", "" + inside);
            due(title + ": whether " + text + " throws",
                    "" + answer(servers, text).startsWith("throws."), "false");
        }
        for (int outside : new int[] {low - 1, high + 1, Integer.MIN_VALUE, Integer.MAX_VALUE}) {
            run(title, setup, call.replace("#", "" + outside) + " = " + thrown);
        }
    }

    /** A directory that was not made yet, one that is gone, and numbers of no directory. */
    static void noSuchDirectory(String title, String setup, String call) {
        String grown = directories(10) + setup;
        range(title, grown, call, 0, 10, "IOOBE");
        run(title, directories(11) + setup, call.replace("#", "12") + " = IOOBE");
        run(title, grown, "remove 0 0 4 = -7", call.replace("#", "5") + " = IOOBE");
    }

    static String written(String answer) {
        switch (answer) {
            case "IAE": return "throws.IllegalArgumentException";
            case "IOOBE": return "throws.IndexOutOfBoundsException";
            case "ISE": return "throws.IllegalStateException";
            default: return answer;
        }
    }

    // ---- rows that many runs begin with; all end with ';'

    /** Directories 1 and so on, in the root, at the names 0 and so on. */
    static String directories(int count) {
        StringBuilder rows = new StringBuilder();
        for (int i = 0; i < count; i++) {
            rows.append("makeDirectory 0 0 " + i + " = " + (i + 1) + ";");
        }
        return rows.toString();
    }

    /** Directories 1 and so on, each at the same name of the one ahead. */
    static String chain(int count, int name) {
        StringBuilder rows = new StringBuilder();
        for (int i = 0; i < count; i++) {
            rows.append("makeDirectory 0 " + i + " " + name + " = " + (i + 1) + ";");
        }
        return rows.toString();
    }

    /** Files 0 and so on, in the root, at the names 0 and so on. */
    static String files(int count) {
        StringBuilder rows = new StringBuilder();
        for (int i = 0; i < count; i++) {
            rows.append("makeFile 0 0 " + i + " = " + i + ";");
        }
        return rows.toString();
    }

    /** Splits a directory that has one fragment into eight of size 1. */
    static String eight(int directory) {
        StringBuilder rows = new StringBuilder();
        int count = 1;
        for (int hash : new int[] {0, 0, 4, 0, 2, 4, 6}) {
            count++;
            rows.append("split " + directory + " " + hash + " = " + count + ";");
        }
        return rows.toString();
    }

    /** A whole move. */
    static String move(int directory, int hash, int server) {
        return "beginMove " + directory + " " + hash + " " + server + " = ok;"
                + "stepMove = 1; stepMove = 2;";
    }

    /** As many clients, up to four, ask for a free name that has a hash: a load of as much. */
    static String asked(int directory, int hash, int clients) {
        StringBuilder rows = new StringBuilder();
        for (int client = 0; client < clients; client++) {
            rows.append("lookup " + client + " " + directory + " " + NAME_OF_HASH[hash] + " = -1;");
        }
        return rows.toString();
    }

    /** For the hashes 0 to 7: '*' for one that is frozen, '.' for one that is not. */
    static String frozen(int directory, String hashes) {
        StringBuilder rows = new StringBuilder();
        for (int hash = 0; hash < hashes.length(); hash++) {
            rows.append("isFrozen " + directory + " " + NAME_OF_HASH[hash] + " = ");
            rows.append((hashes.charAt(hash) == '*') + ";");
        }
        return rows.toString();
    }

    /** For the hashes 0 to 7: the owner's digit, or '-' for none. */
    static String owners(int directory, String hashes) {
        StringBuilder rows = new StringBuilder();
        for (int hash = 0; hash < hashes.length(); hash++) {
            char owner = hashes.charAt(hash);
            rows.append("ownerOf " + directory + " " + hash + " = ");
            rows.append((owner == '-' ? "-1" : "" + owner) + ";");
        }
        return rows.toString();
    }

    /** The loads of the servers 0 to 3. */
    static String loads(int... loads) {
        StringBuilder rows = new StringBuilder();
        for (int server = 0; server < loads.length; server++) {
            rows.append("load " + server + " = " + loads[server] + ";");
        }
        return rows.toString();
    }

    /** A row may hold several calls, with ';' between them. */
    static List<String> lines(String... rows) {
        List<String> lines = new ArrayList<>();
        for (String row : rows) {
            for (String part : row.split(";")) {
                if (!part.isBlank()) {
                    lines.add(part.trim());
                }
            }
        }
        return lines;
    }

    static void due(String what, String got, String want) {
        checks++;
        if (!got.equals(want)) {
            wrong++;
            System.out.println(what + " answered " + got + ", due is " + want);
        }
    }

    static void end() {
        System.out.println(checks + " answers looked at, " + wrong + " not as due");
        System.exit(wrong == 0 && checks > 0 ? 0 : 1);
    }

    static String answer(DirectoryServers servers, String call) {
        String[] words = call.trim().split("\\s+");
        int[] given = new int[words.length - 1];
        for (int i = 0; i < given.length; i++) {
            given[i] = Integer.parseInt(words[i + 1]);
        }
        return answer(servers, words[0], given);
    }

    static String answer(DirectoryServers servers, String call, int[] g) {
        try {
            return plainAnswer(servers, call, g);
        } catch (RuntimeException e) {
            return "throws." + e.getClass().getSimpleName();
        }
    }

    private static String plainAnswer(DirectoryServers x, String call, int[] g) {
        switch (call) {
            case "lookup": return "" + x.lookup(g[0], g[1], g[2]);
            case "makeDirectory": return "" + x.makeDirectory(g[0], g[1], g[2]);
            case "makeFile": return "" + x.makeFile(g[0], g[1], g[2]);
            case "link": return "" + x.link(g[0], g[1], g[2], g[3]);
            case "remove": return "" + x.remove(g[0], g[1], g[2]);
            case "rename": x.rename(g[0], g[1], g[2], g[3], g[4]); return "ok";
            case "pass": return "" + x.pass(g[0]);
            case "leases": return "" + x.leases(g[0]);
            case "recalls": return "" + x.recalls(g[0]);
            case "known": return "" + x.known(g[0]);
            case "split": return "" + x.split(g[0], g[1]);
            case "merge": return "" + x.merge(g[0], g[1]);
            case "fragments": return "" + x.fragments(g[0]);
            case "serverOf": return "" + x.serverOf(g[0], g[1]);
            case "ownerOf": return "" + x.ownerOf(g[0], g[1]);
            case "load": return "" + x.load(g[0]);
            case "beginMove": x.beginMove(g[0], g[1], g[2]); return "ok";
            case "stepMove": return "" + x.stepMove();
            case "giveUpMove": return "" + x.giveUpMove();
            case "isFrozen": return "" + x.isFrozen(g[0], g[1]);
            case "balance": return "" + x.balance();
            case "links": return "" + x.links(g[0]);
            case "anchor": return "" + x.anchor(g[0]);
            case "byTree": return "" + x.byTree(g[0], g[1]);
            case "size": return "" + x.size(g[0]);
            default: throw new UnsupportedOperationException(call);
        }
    }
}

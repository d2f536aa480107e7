import java.util.ArrayList;
import java.util.List;

/**
 * Calls written as text, "lookup 0 0 3", and answers written as text: a number, true or false,
 * "ok" of a call that returns nothing, or "throws." and the name of the exception.
 */
final class Script {
    static final int MOST_CALLS = 512;

    private static int checks = 0;
    private static int wrong = 0;

    private Script() {
    }

    /** Does the rows "call = answer" one after the other on a new object. */
    static void run(String title, String... rows) {
        DirectoryServers servers = new DirectoryServers();
        int calls = 0;
        for (String row : lines(rows)) {
            int equals = row.indexOf(" = ");
            String call = row.substring(0, equals).trim();
            calls++;
            due(title + ", row " + calls + ": " + call,
                    answer(servers, call), row.substring(equals + 3).trim());
        }
        due(title + " is not too long", "" + (calls <= MOST_CALLS), "true");
    }

    /** A row may hold several calls, with ';' between them. */
    static List<String> lines(String... rows) {
        List<String> lines = new ArrayList<>();
        for (String row : rows) {
            for (String part : row.split(";")) {
                if (!part.isBlank()) {
                    lines.add(part.trim());
                }
            }
        }
        return lines;
    }

    static void due(String what, String got, String want) {
        checks++;
        if (!got.equals(want)) {
            wrong++;
            System.out.println(what + " answered " + got + ", due is " + want);
        }
    }

    static void end() {
        System.out.println(checks + " answers looked at, " + wrong + " not as due");
        System.exit(wrong == 0 && checks > 0 ? 0 : 1);
    }

    static String answer(DirectoryServers servers, String call) {
        String[] words = call.trim().split("\\s+");
        int[] given = new int[words.length - 1];
        for (int i = 0; i < given.length; i++) {
            given[i] = Integer.parseInt(words[i + 1]);
        }
        return answer(servers, words[0], given);
    }

    static String answer(DirectoryServers servers, String call, int[] g) {
        try {
            return plainAnswer(servers, call, g);
        } catch (RuntimeException e) {
            return "throws." + e.getClass().getSimpleName();
        }
    }

    private static String plainAnswer(DirectoryServers x, String call, int[] g) {
        switch (call) {
            case "lookup": return "" + x.lookup(g[0], g[1], g[2]);
            case "makeDirectory": return "" + x.makeDirectory(g[0], g[1], g[2]);
            case "makeFile": return "" + x.makeFile(g[0], g[1], g[2]);
            case "link": return "" + x.link(g[0], g[1], g[2], g[3]);
            case "remove": return "" + x.remove(g[0], g[1], g[2]);
            case "rename": x.rename(g[0], g[1], g[2], g[3], g[4]); return "ok";
            case "pass": return "" + x.pass(g[0]);
            case "leases": return "" + x.leases(g[0]);
            case "recalls": return "" + x.recalls(g[0]);
            case "known": return "" + x.known(g[0]);
            case "split": return "" + x.split(g[0], g[1]);
            case "merge": return "" + x.merge(g[0], g[1]);
            case "fragments": return "" + x.fragments(g[0]);
            case "serverOf": return "" + x.serverOf(g[0], g[1]);
            case "ownerOf": return "" + x.ownerOf(g[0], g[1]);
            case "load": return "" + x.load(g[0]);
            case "beginMove": x.beginMove(g[0], g[1], g[2]); return "ok";
            case "stepMove": return "" + x.stepMove();
            case "giveUpMove": return "" + x.giveUpMove();
            case "isFrozen": return "" + x.isFrozen(g[0], g[1]);
            case "balance": return "" + x.balance();
            case "links": return "" + x.links(g[0]);
            case "anchor": return "" + x.anchor(g[0]);
            case "byTree": return "" + x.byTree(g[0], g[1]);
            case "size": return "" + x.size(g[0]);
            default: throw new UnsupportedOperationException(call);
        }
    }
}

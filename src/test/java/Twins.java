import java.util.ArrayList;
import java.util.LinkedHashMap;
import java.util.List;
import java.util.Map;

/**
 * Twins are two objects that had the same calls, but for one call that one of them had beside. All
 * that can be asked is asked of both, in parts and each part of fresh twins, since an object is
 * used for at most 512 calls.
 */
final class Twins {
    // What the state holds that no single question tells; each part is a run of calls of its own.
    static final String TIME = "time";
    static final String LEASE_ENDS = "lease ends";
    static final String LEASED_NAMES = "leased names";
    static final String MOVE_TARGET = "target of the move";
    static final String MOVE_RECALLS = "recalls of the move";
    static final String MOVE_GIVEN_UP = "move given up";
    static final String BALANCED = "balanced";
    static final String NUMBERS = "numbers";
    static final String AGES = "ages";
    static final String LOADS = "loads";
    static final String PLACES = "places";

    static final int DIRECTORIES = 5;
    private static final int QUESTIONS_OF_A_PART = 300;
    private static final Map<String, List<String>> PARTS = parts();

    /** A tree with all that there may be: files and directories are gone, leases were recalled. */
    static final String[] GROWN = {
        "makeFile 0 0 0; makeFile 1 0 1; makeDirectory 0 0 2; makeDirectory 1 1 0",
        "makeDirectory 2 0 4; link 0 1 5 0; link 1 2 6 0; makeFile 0 2 7; remove 0 0 1",
        "lookup 0 0 13; makeFile 1 0 13; makeDirectory 0 0 14; remove 1 0 14",
        "split 0 0; split 0 6; split 3 0; lookup 0 0 0; lookup 1 0 0; lookup 2 1 0",
        "lookup 3 2 9; lookup 3 0 9; beginMove 3 0 2; stepMove; stepMove; pass 4",
        "lookup 0 3 0; lookup 0 0 0; lookup 1 1 1; lookup 1 2 7; lookup 2 0 20; lookup 2 0 21",
        "split 2 0; split 2 0; split 2 0",
    };

    private Twins() {
    }

    /**
     * Holds both twins against one another behind the call: they answer all questions alike but
     * for those of the rows in changed, "size 0 = 5", which have the answer there; '*' in a row
     * is any number. The parts that are left out are not asked.
     */
    static void compare(String title, List<String> before, String call, String answer,
            List<String> changed, List<String> leftOut) {
        for (Map.Entry<String, List<String>> part : PARTS.entrySet()) {
            if (!leftOut.contains(part.getKey())) {
                comparePart(title + ", " + call, before, call, answer, changed, part.getValue());
            }
        }
    }

    private static void comparePart(String title, List<String> before, String call, String answer,
            List<String> changed, List<String> questions) {
        DirectoryServers one = new DirectoryServers();
        DirectoryServers twin = new DirectoryServers();
        for (String row : before) {
            String got = Script.answer(one, row);
            Script.due(title + ", ahead of it: " + row, Script.answer(twin, row), got);
            Script.due(title + ", ahead of it: " + row + " throws",
                    "" + got.startsWith("throws"), "false");
        }
        Script.due(title, Script.answer(one, call), answer);
        for (String question : questions) {
            String without = Script.answer(twin, question);
            Script.due(title + ", behind it: " + question, Script.answer(one, question),
                    changedAnswer(question, changed, without));
        }
        Script.due(title + ", calls are few enough",
                "" + (before.size() + 1 + questions.size() <= Script.MOST_CALLS), "true");
    }

    private static String changedAnswer(String question, List<String> changed, String without) {
        for (String row : changed) {
            int equals = row.indexOf(" = ");
            if (question.matches(row.substring(0, equals).replace("*", "[0-9]+"))) {
                return Script.written(row.substring(equals + 3));
            }
        }
        return without;
    }

    /** All questions that change nothing. */
    static List<String> questions() {
        List<String> all = new ArrayList<>();
        for (int i = 0; i < 4; i++) {
            all.add("leases " + i);
            all.add("recalls " + i);
            all.add("known " + i);
            all.add("load " + i);
        }
        for (int file = 0; file < 31; file++) {
            all.add("links " + file);
            all.add("anchor " + file);
        }
        for (int directory = 0; directory < 12; directory++) {
            all.add("size " + directory);
            all.add("fragments " + directory);
            for (int hash = 0; hash < 8; hash++) {
                all.add("ownerOf " + directory + " " + hash);
            }
        }
        for (int directory = 0; directory <= DIRECTORIES; directory++) {
            for (int name = 0; name < 50; name++) {
                all.add("byTree " + directory + " " + name);
                all.add("serverOf " + directory + " " + name);
                all.add("isFrozen " + directory + " " + name);
            }
        }
        return all;
    }

    private static Map<String, List<String>> parts() {
        Map<String, List<String>> parts = new LinkedHashMap<>();
        List<String> all = questions();
        for (int from = 0; from < all.size(); from += QUESTIONS_OF_A_PART) {
            int end = Math.min(all.size(), from + QUESTIONS_OF_A_PART);
            parts.put("questions from " + from, new ArrayList<>(all.subList(from, end)));
        }
        parts.put(TIME, Script.lines("pass 1; pass 100"));
        parts.put(LEASE_ENDS, leaseEnds());
        for (int client = 0; client < 4; client++) {
            parts.put(LEASED_NAMES + " of " + client, leasedNames(client));
        }
        String leases = "recalls 0; recalls 1; recalls 2; recalls 3;"
                + "leases 0; leases 1; leases 2; leases 3;";
        parts.put(MOVE_TARGET, Script.lines("stepMove; stepMove;", owners(), "stepMove"));
        parts.put(MOVE_RECALLS, Script.lines("stepMove;", leases, "giveUpMove;", leases));
        parts.put(MOVE_GIVEN_UP, Script.lines("giveUpMove; giveUpMove; isFrozen 1 0; isFrozen 0 0;",
            leases, owners(), "stepMove"));
        parts.put(BALANCED, Script.lines("giveUpMove; balance; load 0; load 1; load 2; load 3",
            "isFrozen 0 0; isFrozen 1 0; isFrozen 2 0; isFrozen 3 0; stepMove; stepMove;", owners()));
        parts.put(NUMBERS, Script.lines("giveUpMove; makeDirectory 0 0 40; makeFile 0 0 41",
            "makeDirectory 3 3 42; makeFile 3 3 43; size 4; links 4; anchor 4"));
        parts.put(AGES, Script.lines("giveUpMove; anchor 0; link 0 0 42 0; anchor 0; remove 0 0 0",
            "anchor 0; link 0 0 0 0; anchor 0; remove 0 1 5; anchor 0; remove 0 2 6; anchor 0",
            "remove 0 0 42; anchor 0; remove 0 0 0; anchor 0; links 0; anchor 2; anchor 3"));
        parts.put(LOADS, loads());
        parts.put(PLACES, places());
        return parts;
    }

    /** How many leases run at each minute until all are over. */
    private static List<String> leaseEnds() {
        List<String> rows = new ArrayList<>();
        for (int minute = 0; minute < 16; minute++) {
            rows.addAll(Script.lines("leases 0; leases 1; leases 2; leases 3; pass 1"));
        }
        return rows;
    }

    /** On which names a client has leases: those that it knows by itself. */
    private static List<String> leasedNames(int client) {
        List<String> rows = new ArrayList<>();
        for (int directory = 0; directory < DIRECTORIES; directory++) {
            for (int name = 0; name < 25; name++) {
                rows.add("lookup " + client + " " + directory + " " + name);
                rows.add("known " + client);
            }
        }
        return rows;
    }

    private static String owners() {
        StringBuilder rows = new StringBuilder();
        for (int directory = 0; directory < DIRECTORIES; directory++) {
            for (int hash = 0; hash < 8; hash++) {
                rows.append("ownerOf " + directory + " " + hash + ";");
            }
        }
        return rows.toString();
    }

    /** The load of each fragment: it goes over to a server with the fragment. */
    private static List<String> loads() {
        List<String> rows = Script.lines("giveUpMove");
        for (int directory = 0; directory < DIRECTORIES; directory++) {
            for (int hash = 0; hash < 8; hash++) {
                rows.addAll(Script.lines("beginMove " + directory + " " + hash + " 3",
                        "stepMove; stepMove; load 0; load 1; load 2; load 3"));
            }
        }
        return rows;
    }

    /** From which names the directories inherit: with those they are frozen. */
    private static List<String> places() {
        List<String> rows = Script.lines("giveUpMove");
        for (int hash = 0; hash < 8; hash++) {
            rows.add("beginMove 0 " + hash + " 1");
            for (int directory = 0; directory < DIRECTORIES; directory++) {
                rows.addAll(Script.lines(Script.frozen(directory, "????????")
                        .replaceAll(" = [a-z]+", "")));
            }
            rows.add("giveUpMove");
        }
        return rows;
    }
}

import java.util.ArrayList;
import java.util.List;

/**
 * When a call throws, nothing has changed: an object with the call and its twin without it answer
 * alike ever after.
 */
public final class NothingChangesTest {
    private static final String[] CALLS_THAT_THROW = {
        "lookup 4 0 0; lookup 0 0 50; lookup 0 9 0; lookup -1 9 0",
        "makeDirectory 4 0 30; makeDirectory 0 0 50; makeDirectory 0 9 0; makeDirectory 0 0 0",
        "makeFile 4 0 30; makeFile 0 0 50; makeFile 0 9 0; makeFile 0 0 0; makeFile 0 0 2",
        "link 4 0 30 0; link 0 0 50 0; link 0 9 0 0; link 0 0 30 9; link 0 0 30 1; link 0 0 0 0",
        "remove 4 0 0; remove 0 0 50; remove 0 9 0; remove 0 0 30; remove 3 0 2",
        "rename 4 0 0 0 30; rename 0 0 50 0 30; rename 0 0 0 0 50; rename 0 9 0 0 30",
        "rename 0 0 0 9 30; rename 0 0 30 0 31; rename 0 0 0 1 5; rename 0 0 2 2 30",
        "rename 1 0 2 1 30; rename 3 0 0 0 0; pass 0; pass 101; leases 4; recalls 4; known 4",
        "split 0 8; split 9 0; split 2 0; split 2 1; merge 0 8; merge 9 0; merge 0 0; merge 1 0; merge 3 0; merge 3 7",
        "fragments 9; serverOf 0 50; serverOf 9 0; ownerOf 0 8; ownerOf 9 0; load 4",
        "beginMove 0 8 1; beginMove 0 0 4; beginMove 9 0 1; beginMove 0 0 0; stepMove",
        "giveUpMove; isFrozen 0 50; isFrozen 9 0; links 9; links -1; anchor 9; anchor -1",
        "byTree 0 50; byTree 9 0; size 9",
    };

    private static final String[] CALLS_THAT_THROW_WHILE_ONE_HALF_MOVES = {
        "remove 0 0 4; makeFile 0 3 2; split 3 4; merge 3 0; merge 3 4; balance; beginMove 1 0 1",
    };

    private static final String[] CALLS_THAT_THROW_WHILE_A_MERGE_COULD_BE = {
        "merge 0 4; merge 0 7; split 0 6; rename 0 0 0 0 15; rename 1 1 5 0 7; balance",
    };

    private static final String[] CALLS_THAT_THROW_WHILE_MOVING = {
        "makeDirectory 0 1 30; makeFile 0 1 30; makeFile 0 2 31; link 0 1 30 0; remove 0 1 5",
        "remove 0 1 0; remove 0 0 2; rename 0 1 5 0 30; rename 0 0 0 1 30; rename 0 1 0 1 30",
        "split 1 0; split 2 7; merge 1 0; beginMove 1 0 3; beginMove 0 0 1; beginMove 3 4 3",
        "balance; beginMove 0 0 4; remove 4 1 5; link 0 1 30 1",
    };

    public static void main(String[] args) {
        String[] none = {};
        throwing(Twins.GROWN, none, CALLS_THAT_THROW);
        throwing(Twins.GROWN, new String[] {"beginMove 1 0 1"}, CALLS_THAT_THROW_WHILE_MOVING);
        throwing(Twins.GROWN, new String[] {"beginMove 1 0 1; stepMove"}, CALLS_THAT_THROW_WHILE_MOVING);
        throwing(Twins.GROWN, new String[] {"beginMove 0 6 1"}, CALLS_THAT_THROW_WHILE_A_MERGE_COULD_BE);
        throwing(Twins.GROWN, new String[] {"beginMove 3 4 1"}, CALLS_THAT_THROW_WHILE_ONE_HALF_MOVES);
        throwing(full(), none, new String[] {
            "makeDirectory 0 0 30; makeFile 0 0 30; makeDirectory 1 1 30; makeFile 2 1 30"});
        Script.end();
    }

    private static String[] full() {
        StringBuilder rows = new StringBuilder();
        for (int name = 0; name < 11; name++) {
            rows.append("makeDirectory 0 0 ").append(name).append(';');
        }
        for (int name = 0; name < 30; name++) {
            rows.append("makeFile 1 1 ").append(name).append(';');
        }
        rows.append("lookup 0 0 30; lookup 3 0 30; lookup 2 1 30; lookup 0 1 30");
        return new String[] {rows.toString()};
    }

    private static void throwing(String[] grown, String[] more, String[] calls) {
        List<String> before = new ArrayList<>(Script.lines(grown));
        before.addAll(Script.lines(more));
        for (String call : Script.lines(calls)) {
            DirectoryServers alone = new DirectoryServers();
            for (String row : before) {
                Script.answer(alone, row);
            }
            String answer = Script.answer(alone, call);
            Script.due(title(call) + ", " + call + ": it throws",
                    "" + answer.startsWith("throws.I"), "true");
            Twins.compare(title(call), before, call, answer, List.of(), List.of());
        }
    }

    private static String title(String call) {
        switch (call.split(" ")[0]) {
            case "lookup": return "2 when lookup throws, nothing has changed";
            case "makeDirectory": return "3 when makeDirectory throws, nothing has changed";
            case "makeFile": return "4 when makeFile throws, nothing has changed";
            case "link": return "5 when link throws, nothing has changed";
            case "remove": return "6 when remove throws, nothing has changed";
            case "rename": return "7 when rename throws, nothing has changed";
            case "pass": return "8 when pass throws, nothing has changed";
            case "leases": return "9 when leases throws, nothing has changed";
            case "recalls": return "10 when recalls throws, nothing has changed";
            case "known": return "11 when known throws, nothing has changed";
            case "split": return "12 when split throws, nothing has changed";
            case "merge": return "13 when merge throws, nothing has changed";
            case "fragments": return "14 when fragments throws, nothing has changed";
            case "serverOf": return "15 when serverOf throws, nothing has changed";
            case "ownerOf": return "16 when ownerOf throws, nothing has changed";
            case "load": return "17 when load throws, nothing has changed";
            case "beginMove": return "18 when beginMove throws, nothing has changed";
            case "stepMove": return "19 when stepMove throws, nothing has changed";
            case "giveUpMove": return "20 when giveUpMove throws, nothing has changed";
            case "isFrozen": return "21 when isFrozen throws, nothing has changed";
            case "balance": return "22 when balance throws, nothing has changed";
            case "links": return "23 when links throws, nothing has changed";
            case "anchor": return "24 when anchor throws, nothing has changed";
            case "byTree": return "25 when byTree throws, nothing has changed";
            case "size": return "26 when size throws, nothing has changed";
            default: throw new UnsupportedOperationException(call);
        }
    }
}

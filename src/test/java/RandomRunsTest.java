import java.util.ArrayList;
import java.util.List;

/**
 * Long runs of calls, drawn by a fixed series of numbers, on the class and on PlainModel: both
 * must answer the same. Each series leans to other calls, so that deep trees, full rows, many
 * fragments and long moves all come up.
 */
public final class RandomRunsTest {
    private static final int RUNS = 6000;

    private static final String[] CHANGES = {
        "makeDirectory", "makeFile", "link", "remove", "rename", "pass", "split", "merge",
        "beginMove", "stepMove", "giveUpMove", "balance", "lookup", "lookup", "lookup",
    };
    private static final String[] QUESTIONS = {
        "leases", "recalls", "known", "fragments", "serverOf", "ownerOf", "load", "isFrozen",
        "links", "anchor", "byTree", "size",
    };

    private long series;
    private int directories;
    private int files;
    private int nameRange;
    private boolean oddArguments;

    public static void main(String[] args) {
        for (int run = 0; run < RUNS; run++) {
            new RandomRunsTest().compare(run);
        }
        Script.end();
    }

    private int draw(int bound) {
        series = series * 6364136223846793005L + 1442695040888963407L;
        return (int) ((series >>> 33) % bound);
    }

    private void compare(int run) {
        series = 977L * run + 5;
        draw(2);
        directories = 2 + draw(11);
        files = 1 + draw(30);
        nameRange = draw(3) == 0 ? 50 : 3 + draw(10);
        oddArguments = run % 3 == 0;
        int[] weights = new int[CHANGES.length];
        for (int i = 0; i < weights.length; i++) {
            weights[i] = 1 + draw(8);
        }
        DirectoryServers servers = new DirectoryServers();
        PlainModel model = new PlainModel();
        List<String> said = new ArrayList<>();
        for (int calls = 0; calls < Script.MOST_CALLS; calls++) {
            String call = draw(3) == 0 ? QUESTIONS[draw(QUESTIONS.length)] : change(weights);
            int[] given = arguments(call);
            String got = Script.answer(servers, call, given);
            String want = model.answer(call, given);
            said.add(call + " " + java.util.Arrays.toString(given));
            if (!got.equals(want)) {
                System.out.println("run " + run + ": " + said);
            }
            Script.due("run " + run + ", call " + calls + ": " + said.get(calls), got, want);
            if (!got.equals(want)) {
                return;
            }
        }
    }

    private String change(int[] weights) {
        int sum = 0;
        for (int weight : weights) {
            sum += weight;
        }
        int left = draw(sum);
        for (int i = 0; i < weights.length; i++) {
            left -= weights[i];
            if (left < 0) {
                return CHANGES[i];
            }
        }
        return "balance";
    }

    private int odd(int usual) {
        if (!oddArguments || draw(40) != 0) {
            return usual;
        }
        int[] odds = {-1, 4, 8, 50, 101, 12, 30, -2, Integer.MIN_VALUE, Integer.MAX_VALUE};
        return odds[draw(odds.length)];
    }

    private int client() {
        return odd(draw(4));
    }

    private int directory() {
        return odd(draw(3) == 0 ? 0 : draw(directories));
    }

    private int name() {
        return odd(draw(nameRange));
    }

    private int hash() {
        return odd(draw(8));
    }

    private int[] arguments(String call) {
        switch (call) {
            case "lookup": case "makeDirectory": case "makeFile": case "remove":
                return new int[] {client(), directory(), name()};
            case "link":
                return new int[] {client(), directory(), name(), odd(draw(files))};
            case "rename":
                return new int[] {client(), directory(), name(), directory(), name()};
            case "pass":
                return new int[] {odd(draw(8) == 0 ? 1 + draw(100) : 1 + draw(4))};
            case "leases": case "recalls": case "known": case "load":
                return new int[] {client()};
            case "split": case "merge": case "ownerOf":
                return new int[] {directory(), hash()};
            case "fragments": case "size":
                return new int[] {directory()};
            case "serverOf": case "isFrozen": case "byTree":
                return new int[] {directory(), name()};
            case "beginMove":
                return new int[] {directory(), hash(), client()};
            case "links": case "anchor":
                return new int[] {odd(draw(files))};
            default:
                return new int[0];
        }
    }
}

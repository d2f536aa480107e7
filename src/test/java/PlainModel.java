import java.util.ArrayList;
import java.util.HashMap;
import java.util.List;
import java.util.Map;
import java.util.TreeMap;

/**
 * The document written a second time, with lists and maps and no thought of the class under test:
 * RandomRunsTest holds the one against the other.
 */
final class PlainModel {
    private static final class Wrong extends RuntimeException {
        private static final long serialVersionUID = 1L;

        Wrong(String name) {
            super("throws." + name);
        }
    }

    private static final class Part {
        int size;
        int owner;
        int load;

        Part(int size, int owner, int load) {
            this.size = size;
            this.owner = owner;
            this.load = load;
        }
    }

    // Places are 100 * directory + name.
    private final Map<Integer, Integer> names = new HashMap<>();
    private final TreeMap<Integer, TreeMap<Integer, Part>> parts = new TreeMap<>();
    private final Map<Integer, Integer> standsAt = new HashMap<>();
    private final List<List<Integer>> files = new ArrayList<>();
    private final List<Map<Integer, Integer>> leases = new ArrayList<>();
    private final int[] recalls = new int[4];
    private final int[] known = new int[4];
    private int directories = 1;
    private int time = 0;
    private int movedDirectory = -1;
    private int movedBegin = -1;
    private int moveTo = -1;
    private int steps = 0;

    PlainModel() {
        parts.put(0, new TreeMap<>(Map.of(0, new Part(8, 0, 0))));
        for (int client = 0; client < 4; client++) {
            leases.add(new HashMap<>());
        }
    }

    String answer(String call, int[] g) {
        try {
            return plainAnswer(call, g);
        } catch (Wrong e) {
            return e.getMessage();
        }
    }

    private String plainAnswer(String call, int[] g) {
        switch (call) {
            case "lookup": return "" + lookup(g[0], g[1], g[2]);
            case "makeDirectory": return "" + makeDirectory(g[0], g[1], g[2]);
            case "makeFile": return "" + makeFile(g[0], g[1], g[2]);
            case "link": return "" + link(g[0], g[1], g[2], g[3]);
            case "remove": return "" + remove(g[0], g[1], g[2]);
            case "rename": rename(g[0], g[1], g[2], g[3], g[4]); return "ok";
            case "pass": argument(g[0] >= 1 && g[0] <= 100); time += g[0]; return "" + time;
            case "leases": return "" + countLeases(g[0]);
            case "recalls": argument(quarter(g[0])); return "" + recalls[g[0]];
            case "known": argument(quarter(g[0])); return "" + known[g[0]];
            case "split": return "" + split(g[0], g[1]);
            case "merge": return "" + merge(g[0], g[1]);
            case "fragments": there(g[0]); return "" + parts.get(g[0]).size();
            case "serverOf": argument(name(g[1])); there(g[0]); return "" + server(g[0], hash(g[1]));
            case "ownerOf": argument(eighth(g[1])); there(g[0]); return "" + part(g[0], g[1]).owner;
            case "load": argument(quarter(g[0])); return "" + load(g[0]);
            case "beginMove": beginMove(g[0], g[1], g[2]); return "ok";
            case "stepMove": return "" + stepMove();
            case "giveUpMove": state(moves()); movedDirectory = -1; return "" + steps;
            case "isFrozen": argument(name(g[1])); there(g[0]); return "" + frozen(g[0], hash(g[1]));
            case "balance": return "" + balance();
            case "links": file(g[0]); return "" + files.get(g[0]).size();
            case "anchor": file(g[0]);
                return "" + (files.get(g[0]).isEmpty() ? -1 : files.get(g[0]).get(0));
            case "byTree": argument(name(g[1])); there(g[0]); return "" + found(100 * g[0] + g[1]);
            case "size": there(g[0]); return "" + count(g[0]);
            default: throw new UnsupportedOperationException(call);
        }
    }

    private static void argument(boolean holds) {
        if (!holds) {
            throw new Wrong("IllegalArgumentException");
        }
    }

    private static void index(boolean holds) {
        if (!holds) {
            throw new Wrong("IndexOutOfBoundsException");
        }
    }

    private static void state(boolean holds) {
        if (!holds) {
            throw new Wrong("IllegalStateException");
        }
    }

    private static boolean quarter(int x) {
        return x >= 0 && x <= 3;
    }

    private static boolean eighth(int x) {
        return x >= 0 && x <= 7;
    }

    private static boolean name(int x) {
        return x >= 0 && x <= 49;
    }

    private static int hash(int name) {
        return (5 * name + 3) % 8;
    }

    private void there(int directory) {
        index(parts.containsKey(directory));
    }

    private void file(int file) {
        index(file >= 0 && file < files.size());
    }

    private boolean moves() {
        return movedDirectory >= 0;
    }

    private int found(int place) {
        return names.getOrDefault(place, -1);
    }

    private int begin(int directory, int hash) {
        return parts.get(directory).floorKey(hash);
    }

    private Part part(int directory, int hash) {
        return parts.get(directory).get(begin(directory, hash));
    }

    private int server(int directory, int hash) {
        int owner = part(directory, hash).owner;
        if (owner >= 0) {
            return owner;
        }
        int at = standsAt.get(directory);
        return server(at / 100, hash(at % 100));
    }

    private boolean frozen(int directory, int hash) {
        if (directory == movedDirectory && begin(directory, hash) == movedBegin) {
            return true;
        }
        if (part(directory, hash).owner >= 0) {
            return false;
        }
        int at = standsAt.get(directory);
        return frozen(at / 100, hash(at % 100));
    }

    private int count(int directory) {
        int count = 0;
        for (int place : names.keySet()) {
            if (place / 100 == directory) {
                count++;
            }
        }
        return count;
    }

    private int load(int server) {
        int sum = 0;
        for (int directory : parts.keySet()) {
            for (int begin : parts.get(directory).keySet()) {
                if (server(directory, begin) == server) {
                    sum += part(directory, begin).load;
                }
            }
        }
        return sum;
    }

    private boolean runs(int client, int place) {
        Integer since = leases.get(client).get(place);
        return since != null && time - since < 10;
    }

    private int countLeases(int client) {
        argument(quarter(client));
        int count = 0;
        for (int place : leases.get(client).keySet()) {
            if (runs(client, place)) {
                count++;
            }
        }
        return count;
    }

    private void recall(int place, int butOf) {
        for (int client = 0; client < 4; client++) {
            if (client != butOf && runs(client, place)) {
                recalls[client]++;
            }
            leases.get(client).remove(place);
        }
    }

    private void changed(int client, int place) {
        part(place / 100, hash(place % 100)).load++;
        recall(place, client);
    }

    private int lookup(int client, int directory, int name) {
        argument(quarter(client) && name(name));
        there(directory);
        int place = 100 * directory + name;
        if (runs(client, place)) {
            known[client]++;
        } else {
            part(directory, hash(name)).load++;
            leases.get(client).put(place, time);
        }
        return found(place);
    }

    private int makeDirectory(int client, int directory, int name) {
        argument(quarter(client) && name(name));
        there(directory);
        int place = 100 * directory + name;
        state(found(place) == -1 && !frozen(directory, hash(name)) && directories < 12);
        int made = directories++;
        names.put(place, -2 - made);
        standsAt.put(made, place);
        parts.put(made, new TreeMap<>(Map.of(0, new Part(8, -1, 0))));
        changed(client, place);
        return made;
    }

    private int makeFile(int client, int directory, int name) {
        argument(quarter(client) && name(name));
        there(directory);
        int place = 100 * directory + name;
        state(found(place) == -1 && !frozen(directory, hash(name)) && files.size() < 30);
        files.add(new ArrayList<>(List.of(place)));
        names.put(place, files.size() - 1);
        changed(client, place);
        return files.size() - 1;
    }

    private int link(int client, int directory, int name, int file) {
        argument(quarter(client) && name(name));
        there(directory);
        file(file);
        index(!files.get(file).isEmpty());
        int place = 100 * directory + name;
        state(found(place) == -1 && !frozen(directory, hash(name)));
        files.get(file).add(place);
        names.put(place, file);
        changed(client, place);
        return files.get(file).size();
    }

    private int remove(int client, int directory, int name) {
        argument(quarter(client) && name(name));
        there(directory);
        int place = 100 * directory + name;
        int was = found(place);
        state(was != -1 && !frozen(directory, hash(name)));
        if (was >= 0) {
            files.get(was).remove((Integer) place);
        } else {
            int gone = -2 - was;
            state(count(gone) == 0 && movedDirectory != gone);
            parts.remove(gone);
            standsAt.remove(gone);
            for (Map<Integer, Integer> held : leases) {
                held.keySet().removeIf(at -> at / 100 == gone);
            }
        }
        names.remove(place);
        changed(client, place);
        return was;
    }

    private void rename(int client, int directory, int name, int target, int other) {
        argument(quarter(client) && name(name) && name(other));
        there(directory);
        there(target);
        int from = 100 * directory + name;
        int to = 100 * target + other;
        int was = found(from);
        state(was != -1 && found(to) == -1);
        state(!frozen(directory, hash(name)) && !frozen(target, hash(other)));
        if (was >= 0) {
            files.get(was).set(files.get(was).indexOf(from), to);
        } else {
            for (int at = target; at != 0; at = standsAt.get(at) / 100) {
                state(at != -2 - was);
            }
            standsAt.put(-2 - was, to);
        }
        names.remove(from);
        names.put(to, was);
        changed(client, from);
        changed(client, to);
    }

    private int split(int directory, int hash) {
        argument(eighth(hash));
        there(directory);
        Part part = part(directory, hash);
        state(part.size > 1 && !frozen(directory, hash));
        int begin = begin(directory, hash);
        int half = part.size / 2;
        parts.get(directory).put(begin, new Part(half, part.owner, (part.load + 1) / 2));
        parts.get(directory).put(begin + half,
                new Part(half, part.owner, part.load - (part.load + 1) / 2));
        return parts.get(directory).size();
    }

    private int merge(int directory, int hash) {
        argument(eighth(hash));
        there(directory);
        Part part = part(directory, hash);
        state(part.size < 8);
        int low = begin(directory, hash) / (2 * part.size) * (2 * part.size);
        Part first = parts.get(directory).get(low);
        Part second = parts.get(directory).get(low + part.size);
        state(first != null && second != null && first.size == second.size);
        state(first.owner == second.owner);
        state(!frozen(directory, low) && !frozen(directory, low + part.size));
        parts.get(directory).remove(low + part.size);
        parts.get(directory).put(low, new Part(2 * part.size, first.owner,
                first.load + second.load));
        return parts.get(directory).size();
    }

    private void beginMove(int directory, int hash, int server) {
        argument(eighth(hash) && quarter(server));
        there(directory);
        state(!moves() && server(directory, hash) != server);
        movedDirectory = directory;
        movedBegin = begin(directory, hash);
        moveTo = server;
        steps = 0;
    }

    private int stepMove() {
        state(moves());
        steps++;
        if (steps == 2) {
            part(movedDirectory, movedBegin).owner = moveTo;
            movedDirectory = -1;
            return 2;
        }
        for (int directory : parts.keySet()) {
            for (int name = 0; name < 50; name++) {
                if (frozen(directory, hash(name))) {
                    recall(100 * directory + name, -1);
                }
            }
        }
        return 1;
    }

    private int balance() {
        state(!moves());
        int a = 0;
        int b = 0;
        for (int server = 1; server < 4; server++) {
            a = load(server) > load(a) ? server : a;
            b = load(server) < load(b) ? server : b;
        }
        int bestLoad = 0;
        int more = load(a) - load(b);
        for (int directory : parts.keySet()) {
            for (int begin : parts.get(directory).keySet()) {
                int load = part(directory, begin).load;
                if (more >= 4 && server(directory, begin) == a && load > bestLoad
                        && 2 * load <= more) {
                    bestLoad = load;
                    movedDirectory = directory;
                    movedBegin = begin;
                    moveTo = b;
                    steps = 0;
                }
            }
        }
        for (TreeMap<Integer, Part> split : parts.values()) {
            for (Part part : split.values()) {
                part.load = part.load / 2;
            }
        }
        return movedDirectory;
    }
}

/**
 * Servers that share a tree of directories: directories are split into fragments by hashes of
 * names, fragments belong to servers by subtrees, and move in two phases; clients look names up
 * with leases, which are recalled when names change; files have several links, one of which is
 * the anchor.
 */
public final class DirectoryServers {
    private static final int SERVERS = 4;
    private static final int CLIENTS = 4;
    private static final int NAMES = 50;
    private static final int HASHES = 8;
    private static final int MOST_DIRECTORIES = 12;
    private static final int MOST_FILES = 30;
    private static final int MOST_MINUTES = 100;
    private static final int LEASE_MINUTES = 10;
    private static final int LEAST_UNEVENNESS = 4;
    private static final int ANCHOR_FACTOR = 100;

    private static final int FIRST_SERVER = 0;
    private static final int NO_SERVER = -1;
    private static final int NO_CLIENT = -1;
    private static final int NO_ANCHOR = -1;
    private static final int NO_DIRECTORY = -1;

    // What a name stands for is kept as lookup answers it: a file by its number, FREE, or
    // ROOT_MEANING less the number of a directory.
    private static final int FREE = -1;
    private static final int ROOT_MEANING = -2;

    // A directory that is gone leaves null behind, and its fragments and leases are gone with it.
    private final Directory[] directories = new Directory[MOST_DIRECTORIES];
    private int directoriesMade;
    private int filesMade;
    private int linksMade;
    private int time;
    private final int[] recallCounts = new int[CLIENTS];
    private final int[] knownCounts = new int[CLIENTS];

    // The fragment that moves, null while no move goes on.
    private Fragment moving;
    private int moveServer;
    private int moveSteps;

    /** Begins with the root alone. */
    public DirectoryServers() {
        directories[0] = new Directory(0, null, 0, FIRST_SERVER);
        directoriesMade = 1;
    }

    // ---- calls of clients

    /** Looks a name up: a file, ROOT_MEANING less a directory, or FREE. */
    public int lookup(int client, int directory, int name)
            throws IllegalArgumentException, IndexOutOfBoundsException {
        needClient(client);
        needName(name);
        Directory place = needDirectory(directory);
        if (place.leaseRuns(client, name, time)) {
            knownCounts[client]++;
        } else {
            place.fragmentOfName(name).load++;
            place.setLeaseEnd(client, name, time + LEASE_MINUTES);
        }
        return place.meaningOf(name);
    }

    /** Makes a directory and returns its number. */
    public int makeDirectory(int client, int directory, int name)
            throws IllegalArgumentException, IndexOutOfBoundsException, IllegalStateException {
        needClient(client);
        needName(name);
        Directory place = needDirectory(directory);
        needFree(place, name);
        int number = directoriesMade;
        if (number >= MOST_DIRECTORIES) {
            throw new IllegalStateException("there were 12 directories");
        }
        directories[number] = new Directory(number, place, name, NO_SERVER);
        directoriesMade++;
        changeName(client, place, name, ROOT_MEANING - number, 0);
        return number;
    }

    /** Makes a file with one link and returns its number. */
    public int makeFile(int client, int directory, int name)
            throws IllegalArgumentException, IndexOutOfBoundsException, IllegalStateException {
        needClient(client);
        needName(name);
        Directory place = needDirectory(directory);
        needFree(place, name);
        if (filesMade >= MOST_FILES) {
            throw new IllegalStateException("there were 30 files");
        }
        int file = filesMade;
        filesMade++;
        makeLink(client, place, name, file);
        return file;
    }

    /** Makes a further link to a file and returns how many links it has then. */
    public int link(int client, int directory, int name, int file)
            throws IllegalArgumentException, IndexOutOfBoundsException, IllegalStateException {
        needClient(client);
        needName(name);
        Directory place = needDirectory(directory);
        needFile(file);
        int linksBefore = countLinks(file);
        if (linksBefore == 0) {
            throw new IndexOutOfBoundsException("the file is gone");
        }
        needFree(place, name);
        makeLink(client, place, name, file);
        return linksBefore + 1;
    }

    /** Removes a link or an empty directory and returns what the name stood for. */
    public int remove(int client, int directory, int name)
            throws IllegalArgumentException, IndexOutOfBoundsException, IllegalStateException {
        needClient(client);
        needName(name);
        Directory place = needDirectory(directory);
        needTaken(place, name);
        int meaning = place.meaningOf(name);
        Directory gone = directoryMeant(meaning);
        if (gone != null) {
            needRemovable(gone);
            dropDirectory(gone.number);
        }
        changeName(client, place, name, FREE, 0);
        return meaning;
    }

    /** Renames a link or a directory; both names are changed by that. */
    public void rename(int client, int directory, int name, int target, int other)
            throws IllegalArgumentException, IndexOutOfBoundsException, IllegalStateException {
        needClient(client);
        needName(name);
        needName(other);
        Directory place = needDirectory(directory);
        Directory newPlace = needDirectory(target);
        needTaken(place, name);
        needFree(newPlace, other);
        int meaning = place.meaningOf(name);
        Directory renamed = directoryMeant(meaning);
        if (renamed != null && newPlace.isWithin(renamed)) {
            throw new IllegalStateException("the target is the directory or below it");
        }
        // The age goes along: a renamed link stays as old as it is.
        int age = place.ageOf(name);
        changeName(client, place, name, FREE, 0);
        changeName(client, newPlace, other, meaning, age);
        if (renamed != null) {
            renamed.parent = newPlace;
            renamed.nameInParent = other;
        }
    }

    /** Lets time pass and returns the time then. */
    public int pass(int minutes) throws IllegalArgumentException {
        if (minutes < 1 || minutes > MOST_MINUTES) {
            throw new IllegalArgumentException("minutes is out of range");
        }
        time += minutes;
        return time;
    }

    /** Returns how many leases of a client run. */
    public int leases(int client) throws IllegalArgumentException {
        needClient(client);
        int running = 0;
        for (int number = 0; number < directories.length; number++) {
            Directory place = directories[number];
            if (place != null) {
                running += place.countLeases(client, time);
            }
        }
        return running;
    }

    /** Returns how many leases of a client were recalled so far. */
    public int recalls(int client) throws IllegalArgumentException {
        needClient(client);
        return recallCounts[client];
    }

    /** Returns how often a client knew a name by itself when it looked it up. */
    public int known(int client) throws IllegalArgumentException {
        needClient(client);
        return knownCounts[client];
    }

    // ---- fragments and servers

    /** Splits a fragment and returns how many fragments the directory has then. */
    public int split(int directory, int hash)
            throws IllegalArgumentException, IndexOutOfBoundsException, IllegalStateException {
        needHash(hash);
        Directory place = needDirectory(directory);
        Fragment part = place.fragmentAt(hash);
        if (part.size < 2 || frozen(part)) {
            throw new IllegalStateException("the fragment has size 1 or is frozen");
        }
        place.halve(part);
        return place.countFragments();
    }

    /** Merges a fragment with its other half and returns how many the directory has then. */
    public int merge(int directory, int hash)
            throws IllegalArgumentException, IndexOutOfBoundsException, IllegalStateException {
        needHash(hash);
        Directory place = needDirectory(directory);
        Fragment part = place.fragmentAt(hash);
        if (part.size >= HASHES) {
            throw new IllegalStateException("the fragment has size 8");
        }
        Fragment otherPart = place.fragmentAt(part.begin ^ part.size);
        if (otherPart.size != part.size || otherPart.owner != part.owner) {
            throw new IllegalStateException("the halves are unlike");
        }
        if (frozen(part) || frozen(otherPart)) {
            throw new IllegalStateException("one of the halves is frozen");
        }
        if (part.begin < otherPart.begin) {
            place.join(part, otherPart);
        } else {
            place.join(otherPart, part);
        }
        return place.countFragments();
    }

    /** Returns how many fragments a directory has. */
    public int fragments(int directory) throws IndexOutOfBoundsException {
        return needDirectory(directory).countFragments();
    }

    /** Returns the server of the fragment that has a name. */
    public int serverOf(int directory, int name)
            throws IllegalArgumentException, IndexOutOfBoundsException {
        needName(name);
        return serverOfFragment(needDirectory(directory).fragmentOfName(name));
    }

    /** Returns the owner of the fragment that has a hash, NO_SERVER if it has none. */
    public int ownerOf(int directory, int hash)
            throws IllegalArgumentException, IndexOutOfBoundsException {
        needHash(hash);
        return needDirectory(directory).fragmentAt(hash).owner;
    }

    /** Returns the load of a server. */
    public int load(int server) throws IllegalArgumentException {
        needServer(server);
        return loadOfServer(server);
    }

    /** Begins a move. */
    public void beginMove(int directory, int hash, int server)
            throws IllegalArgumentException, IndexOutOfBoundsException, IllegalStateException {
        needHash(hash);
        needServer(server);
        Fragment part = needDirectory(directory).fragmentAt(hash);
        needNoMove();
        if (serverOfFragment(part) == server) {
            throw new IllegalStateException("it is the server of the fragment");
        }
        startMove(part, server);
    }

    /** Does a step of the move and returns which one it was. */
    public int stepMove() throws IllegalStateException {
        if (moving == null) {
            throw new IllegalStateException("no move goes on");
        }
        moveSteps++;
        if (moveSteps == 1) {
            recallFrozenNames();
        } else {
            moving.owner = moveServer;
            moving = null;
        }
        return moveSteps;
    }

    /** Gives the move up and returns how many steps were done. */
    public int giveUpMove() throws IllegalStateException {
        if (moving == null) {
            throw new IllegalStateException("no move goes on");
        }
        moving = null;
        return moveSteps;
    }

    /** Tells whether the fragment that has a name is frozen. */
    public boolean isFrozen(int directory, int name)
            throws IllegalArgumentException, IndexOutOfBoundsException {
        needName(name);
        return frozen(needDirectory(directory).fragmentOfName(name));
    }

    /** Begins a move from the most loaded server to the least loaded one, and halves loads. */
    public int balance() throws IllegalStateException {
        needNoMove();
        int most = FIRST_SERVER;
        int least = FIRST_SERVER;
        int mostLoad = loadOfServer(FIRST_SERVER);
        int leastLoad = mostLoad;
        for (int server = FIRST_SERVER + 1; server < SERVERS; server++) {
            int serverLoad = loadOfServer(server);
            if (serverLoad > mostLoad) {
                most = server;
                mostLoad = serverLoad;
            }
            if (serverLoad < leastLoad) {
                least = server;
                leastLoad = serverLoad;
            }
        }
        int unevenness = mostLoad - leastLoad;
        Fragment chosen = null;
        if (unevenness >= LEAST_UNEVENNESS) {
            chosen = heaviestFragment(most, unevenness / 2);
        }
        if (chosen != null) {
            startMove(chosen, least);
        }
        halveLoads();
        return chosen == null ? NO_DIRECTORY : chosen.directory;
    }

    // ---- files, and the plain tree

    /** Returns how many links a file has, 0 if it is gone. */
    public int links(int file) throws IndexOutOfBoundsException {
        needFile(file);
        return countLinks(file);
    }

    /** Returns the anchor of a file, NO_ANCHOR if the file is gone. */
    public int anchor(int file) throws IndexOutOfBoundsException {
        needFile(file);
        int oldest = NO_ANCHOR;
        int oldestAge = 0;
        for (int number = 0; number < directories.length; number++) {
            Directory place = directories[number];
            if (place != null) {
                int name = place.oldestLink(file);
                if (name < NAMES && (oldest == NO_ANCHOR || place.ageOf(name) < oldestAge)) {
                    oldest = ANCHOR_FACTOR * number + name;
                    oldestAge = place.ageOf(name);
                }
            }
        }
        return oldest;
    }

    /** Returns what lookup() tells, by the plain tree. */
    public int byTree(int directory, int name)
            throws IllegalArgumentException, IndexOutOfBoundsException {
        needName(name);
        return needDirectory(directory).meaningOf(name);
    }

    /** Returns how many names stand for something in a directory. */
    public int size(int directory) throws IndexOutOfBoundsException {
        return needDirectory(directory).countTaken();
    }

    // ---- what the calls need

    private static void needClient(int client) {
        if (client < 0 || client >= CLIENTS) {
            throw new IllegalArgumentException("client is out of range");
        }
    }

    private static void needServer(int server) {
        if (server < 0 || server >= SERVERS) {
            throw new IllegalArgumentException("server is out of range");
        }
    }

    private static void needName(int name) {
        if (name < 0 || name >= NAMES) {
            throw new IllegalArgumentException("name is out of range");
        }
    }

    private static void needHash(int hash) {
        if (hash < 0 || hash >= HASHES) {
            throw new IllegalArgumentException("hash is out of range");
        }
    }

    private Directory needDirectory(int number) {
        Directory place = directoryNumbered(number);
        if (place == null) {
            throw new IndexOutOfBoundsException("there is no such directory");
        }
        return place;
    }

    private void needFile(int file) {
        if (file < 0 || file >= filesMade) {
            throw new IndexOutOfBoundsException("there never was such a file");
        }
    }

    private void needFree(Directory place, int name) {
        if (place.meaningOf(name) != FREE || frozen(place.fragmentOfName(name))) {
            throw new IllegalStateException("the name is not free or its fragment is frozen");
        }
    }

    private void needTaken(Directory place, int name) {
        if (place.meaningOf(name) == FREE || frozen(place.fragmentOfName(name))) {
            throw new IllegalStateException("the name is free or its fragment is frozen");
        }
    }

    private void needRemovable(Directory place) {
        if (place.countTaken() > 0) {
            throw new IllegalStateException("the directory is not empty");
        }
        if (moving != null && moving.directory == place.number) {
            throw new IllegalStateException("a fragment of the directory moves");
        }
    }

    private void needNoMove() {
        if (moving != null) {
            throw new IllegalStateException("a move goes on");
        }
    }

    // ---- names and leases

    private Directory directoryNumbered(int number) {
        if (number < 0 || number >= directories.length) {
            return null;
        }
        return directories[number];
    }

    /** The directory for which a name with this meaning stands, null if it stands for none. */
    private Directory directoryMeant(int meaning) {
        return meaning <= ROOT_MEANING ? directoryNumbered(ROOT_MEANING - meaning) : null;
    }

    private void dropDirectory(int number) {
        if (number >= 0 && number < directories.length) {
            directories[number] = null;
        }
    }

    private void makeLink(int client, Directory place, int name, int file) {
        linksMade++;
        changeName(client, place, name, file, linksMade);
    }

    private void changeName(int client, Directory place, int name, int meaning, int age) {
        place.setMeaning(name, meaning, age);
        place.fragmentOfName(name).load++;
        endLeases(place, name, client);
    }

    /** Ends all leases on a name; those of other clients than the changer are recalled. */
    private void endLeases(Directory place, int name, int changer) {
        for (int client = 0; client < CLIENTS; client++) {
            if (place.leaseRuns(client, name, time)) {
                place.setLeaseEnd(client, name, time);
                if (client != changer) {
                    recallCounts[client]++;
                }
            }
        }
    }

    private void recallFrozenNames() {
        for (int number = 0; number < directories.length; number++) {
            Directory place = directories[number];
            if (place != null) {
                recallFrozenNamesOf(place);
            }
        }
    }

    private void recallFrozenNamesOf(Directory place) {
        for (int name = 0; name < NAMES; name++) {
            if (frozen(place.fragmentOfName(name))) {
                endLeases(place, name, NO_CLIENT);
            }
        }
    }

    private int countLinks(int file) {
        int count = 0;
        for (int number = 0; number < directories.length; number++) {
            Directory place = directories[number];
            if (place != null) {
                count += place.countLinksTo(file);
            }
        }
        return count;
    }

    // ---- servers, loads and the move

    private int serverOfFragment(Fragment part) {
        Fragment at = part;
        for (int level = 0; at != null && level < MOST_DIRECTORIES; level++) {
            if (at.owner != NO_SERVER) {
                return at.owner;
            }
            at = fragmentAbove(at);
        }
        return FIRST_SERVER;
    }

    /** The fragment that has the name of this one's directory, null at the root. */
    private Fragment fragmentAbove(Fragment part) {
        Directory home = directoryNumbered(part.directory);
        if (home == null || home.parent == null) {
            return null;
        }
        return home.parent.fragmentOfName(home.nameInParent);
    }

    /** A fragment with an owner does not inherit, so nothing above it freezes it. */
    private boolean frozen(Fragment part) {
        Fragment at = part;
        for (int level = 0; at != null && level < MOST_DIRECTORIES; level++) {
            if (at == moving) {
                return true;
            }
            if (at.owner != NO_SERVER) {
                return false;
            }
            at = fragmentAbove(at);
        }
        return false;
    }

    private void startMove(Fragment part, int server) {
        moving = part;
        moveServer = server;
        moveSteps = 0;
    }

    private int loadOfServer(int server) {
        int sum = 0;
        for (int slot = 0; slot < MOST_DIRECTORIES * HASHES; slot++) {
            Fragment part = fragmentInSlot(slot);
            if (part != null && serverOfFragment(part) == server) {
                sum += part.load;
            }
        }
        return sum;
    }

    /** Of several the first one: the slots go by directories, then by beginnings. */
    private Fragment heaviestFragment(int server, int mostLoad) {
        Fragment heaviest = null;
        int heaviestLoad = 0;
        for (int slot = 0; slot < MOST_DIRECTORIES * HASHES; slot++) {
            Fragment part = fragmentInSlot(slot);
            if (part != null && part.load > heaviestLoad && part.load <= mostLoad
                    && serverOfFragment(part) == server) {
                heaviest = part;
                heaviestLoad = part.load;
            }
        }
        return heaviest;
    }

    private void halveLoads() {
        for (int slot = 0; slot < MOST_DIRECTORIES * HASHES; slot++) {
            Fragment part = fragmentInSlot(slot);
            if (part != null) {
                part.load /= 2;
            }
        }
    }

    /** There is a slot for each beginning that a fragment of a directory may have. */
    private Fragment fragmentInSlot(int slot) {
        Directory place = directoryNumbered(slot / HASHES);
        return place == null ? null : place.fragmentBeginningAt(slot % HASHES);
    }

    /** A part of a directory's names by their hashes. */
    private static final class Fragment {
        final int directory;
        final int begin;
        int size;
        int owner;
        int load;

        Fragment(int directory, int begin, int size, int owner, int load) {
            this.directory = directory;
            this.begin = begin;
            this.size = size;
            this.owner = owner;
            this.load = load;
        }
    }

    /** A directory with its names, its fragments, and the leases on its names. */
    private static final class Directory {
        final int number;
        Directory parent;
        int nameInParent;
        private final int[] meanings = new int[NAMES];
        private final int[] ages = new int[NAMES];
        // The time from which on a lease does not run any more; time never is below 0.
        private final int[][] leaseEnds = new int[CLIENTS][NAMES];
        private final Fragment[] byHash = new Fragment[HASHES];

        Directory(int number, Directory parent, int nameInParent, int owner) {
            this.number = number;
            this.parent = parent;
            this.nameInParent = nameInParent;
            for (int name = 0; name < NAMES; name++) {
                meanings[name] = FREE;
            }
            Fragment whole = new Fragment(number, 0, HASHES, owner, 0);
            for (int hash = 0; hash < HASHES; hash++) {
                byHash[hash] = whole;
            }
        }

        private static boolean isName(int name) {
            return name >= 0 && name < NAMES;
        }

        int meaningOf(int name) {
            return isName(name) ? meanings[name] : FREE;
        }

        int ageOf(int name) {
            return isName(name) ? ages[name] : 0;
        }

        void setMeaning(int name, int meaning, int age) {
            if (isName(name)) {
                meanings[name] = meaning;
                ages[name] = age;
            }
        }

        int countTaken() {
            int taken = 0;
            for (int name = 0; name < NAMES; name++) {
                if (meanings[name] != FREE) {
                    taken++;
                }
            }
            return taken;
        }

        int countLinksTo(int file) {
            int count = 0;
            for (int name = 0; name < NAMES; name++) {
                if (meanings[name] == file) {
                    count++;
                }
            }
            return count;
        }

        /** The name of the oldest link to a file in this directory, NAMES if there is none. */
        int oldestLink(int file) {
            int oldest = NAMES;
            for (int name = 0; name < NAMES; name++) {
                if (meanings[name] == file && (oldest == NAMES || ages[name] < ages[oldest])) {
                    oldest = name;
                }
            }
            return oldest;
        }

        boolean isWithin(Directory above) {
            Directory at = this;
            for (int level = 0; at != null && level < MOST_DIRECTORIES; level++) {
                if (at == above) {
                    return true;
                }
                at = at.parent;
            }
            return false;
        }

        private static boolean isClient(int client) {
            return client >= 0 && client < CLIENTS;
        }

        boolean leaseRuns(int client, int name, int time) {
            return isClient(client) && isName(name) && leaseEnds[client][name] > time;
        }

        void setLeaseEnd(int client, int name, int end) {
            if (isClient(client) && isName(name)) {
                leaseEnds[client][name] = end;
            }
        }

        int countLeases(int client, int time) {
            int running = 0;
            for (int name = 0; name < NAMES; name++) {
                if (leaseRuns(client, name, time)) {
                    running++;
                }
            }
            return running;
        }

        /** The mask holds any number to the hashes that there are. */
        Fragment fragmentAt(int hash) {
            return byHash[hash & (HASHES - 1)];
        }

        Fragment fragmentOfName(int name) {
            return fragmentAt(5 * name + 3);
        }

        /** The fragment that begins at a hash, null if none does. */
        Fragment fragmentBeginningAt(int hash) {
            Fragment part = fragmentAt(hash);
            return part.begin == hash ? part : null;
        }

        int countFragments() {
            int count = 0;
            for (int hash = 0; hash < HASHES; hash++) {
                if (fragmentBeginningAt(hash) != null) {
                    count++;
                }
            }
            return count;
        }

        /** Leaves the first half with the fragment, with half of its load rounded up. */
        void halve(Fragment part) {
            int half = part.size / 2;
            int secondLoad = part.load / 2;
            Fragment second =
                    new Fragment(number, part.begin + half, half, part.owner, secondLoad);
            part.size = half;
            part.load -= secondLoad;
            putByHash(second);
        }

        void join(Fragment first, Fragment second) {
            first.size += second.size;
            first.load += second.load;
            putByHash(first);
        }

        private void putByHash(Fragment part) {
            for (int hash = 0; hash < HASHES; hash++) {
                if (hash >= part.begin && hash < part.begin + part.size) {
                    byHash[hash] = part;
                }
            }
        }
    }
}

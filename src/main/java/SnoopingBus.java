/** Cores with caches and store buffers over one memory and one snooping bus, as DOC.md promises. */
public final class SnoopingBus {
    public static final int BAD = -1;
    public static final int BUSY = -2;
    public static final int FULL = -3;
    public static final int NOT = -4;
    public static final int NONE = -5;

    private static final int LEAST_CORES = 2;
    private static final int MOST_CORES = 4;
    private static final int LEAST_WAYS = 1;
    private static final int MOST_WAYS = 3;
    private static final int SETS = 2;
    private static final int LINES = 8;
    private static final int WORDS_OF_LINE = 4;
    private static final int WORDS = 32;
    private static final int BUFFER_ROOM = 4;

    private static final int INVALID = 0;
    private static final int SHARED = 1;
    private static final int EXCLUSIVE = 2;
    private static final int MODIFIED = 3;

    private static final int NO_REQUEST = 0;
    private static final int READ = 1;
    private static final int OWN = 2;
    private static final int TRADE = 3;
    private static final int RAISE = 4;
    private static final int REQUEST_KINDS = 8;

    private static final int DONE = 0;
    private static final int WAITS_NOW = 1;

    private static final int NO_LINE = -1;
    private static final int NO_STORE = -1;

    private final MainMemory main = new MainMemory();
    private final Core[] cores;
    private int servedLast;
    private int served;
    private int invalidations;
    private int upgrades;

    public SnoopingBus(int cores, int ways) {
        int size = Math.max(LEAST_CORES, Math.min(MOST_CORES, cores));
        int places = Math.max(LEAST_WAYS, Math.min(MOST_WAYS, ways));
        this.cores = new Core[size];
        for (int core = 0; core < size; core++) {
            this.cores[core] = new Core(new Cache(main, places));
        }
        // The turn starts behind the core served last, and core 0 comes first.
        servedLast = size - 1;
    }

    public int load(int core, int address) {
        if (!isCore(core) || !isAddress(address)) {
            return BAD;
        }
        Core asker = cores[core];
        if (asker.waits()) {
            return BUSY;
        }
        int newest = asker.newestStoreTo(address);
        if (newest != NO_STORE) {
            asker.lastWord = asker.storeWords[newest];
            return DONE;
        }
        if (asker.cache.holds(lineOf(address))) {
            asker.lastWord = asker.cache.words[address];
            asker.cache.use(lineOf(address));
            return DONE;
        }
        asker.ask(READ, address, 0);
        return WAITS_NOW;
    }

    public int store(int core, int address, int word) {
        if (!isCore(core) || !isAddress(address)) {
            return BAD;
        }
        Core asker = cores[core];
        if (asker.waits()) {
            return BUSY;
        }
        if (asker.stores >= BUFFER_ROOM) {
            return FULL;
        }
        asker.appendStore(address, word);
        return asker.stores;
    }

    public int drain(int core) {
        if (!isCore(core)) {
            return BAD;
        }
        Core asker = cores[core];
        if (asker.waits()) {
            return BUSY;
        }
        if (asker.stores == 0) {
            return NOT;
        }
        return asker.changeOrAsk(OWN, asker.storeAddresses[0], asker.storeWords[0]);
    }

    public int swap(int core, int address, int word) {
        return changeAtOnce(core, TRADE, address, word);
    }

    public int add(int core, int address, int word) {
        return changeAtOnce(core, RAISE, address, word);
    }

    public int bus() {
        for (int step = 1; step <= cores.length; step++) {
            int core = (servedLast + step) % cores.length;
            if (cores[core].waits()) {
                serve(core);
                return core;
            }
        }
        return NONE;
    }

    public int evict(int core, int line) {
        if (!isCore(core) || !isLine(line)) {
            return BAD;
        }
        if (cores[core].waits()) {
            return BUSY;
        }
        Cache cache = cores[core].cache;
        int before = cache.states[line];
        cache.drop(line);
        return before;
    }

    public int last(int core) {
        return isCore(core) ? cores[core].lastWord : 0;
    }

    public int request(int core) {
        if (!isCore(core)) {
            return BAD;
        }
        Core asker = cores[core];
        return asker.waits() ? asker.requestKind + REQUEST_KINDS * asker.requestAddress : NO_REQUEST;
    }

    public int buffered(int core) {
        return isCore(core) ? cores[core].stores : BAD;
    }

    public int state(int core, int line) {
        return isCore(core) && isLine(line) ? cores[core].cache.states[line] : BAD;
    }

    public int copy(int core, int address) {
        if (!isCore(core) || !isAddress(address)) {
            return 0;
        }
        Cache cache = cores[core].cache;
        return cache.holds(lineOf(address)) ? cache.words[address] : 0;
    }

    public int memory(int address) {
        return isAddress(address) ? main.words[address] : 0;
    }

    public int seen(int address) {
        if (!isAddress(address)) {
            return 0;
        }
        int line = lineOf(address);
        for (int core = 0; core < cores.length; core++) {
            if (cores[core].cache.states[line] == MODIFIED) {
                return cores[core].cache.words[address];
            }
        }
        return main.words[address];
    }

    public int count(int what) {
        switch (what) {
            case 0:
                return served;
            case 1:
                return main.writeBacks;
            case 2:
                return invalidations;
            case 3:
                return upgrades;
            default:
                return BAD;
        }
    }

    public int victim(int core, int set) {
        if (!isCore(core) || set < 0 || set >= SETS) {
            return BAD;
        }
        int line = cores[core].cache.lineToLeave(set);
        return line == NO_LINE ? BAD : line;
    }

    private boolean isCore(int core) {
        return core >= 0 && core < cores.length;
    }

    private static boolean isAddress(int address) {
        return address >= 0 && address < WORDS;
    }

    private static boolean isLine(int line) {
        return line >= 0 && line < LINES;
    }

    private static int lineOf(int address) {
        return address / WORDS_OF_LINE;
    }

    private int changeAtOnce(int core, int kind, int address, int word) {
        if (!isCore(core) || !isAddress(address)) {
            return BAD;
        }
        Core asker = cores[core];
        if (asker.waits()) {
            return BUSY;
        }
        if (asker.stores != 0) {
            return NOT;
        }
        return asker.changeOrAsk(kind, address, word);
    }

    private void serve(int core) {
        Core asker = cores[core];
        if (asker.requestKind == READ) {
            serveRead(core, asker.requestAddress);
        } else {
            takeLine(core, lineOf(asker.requestAddress));
            asker.change(asker.requestKind, asker.requestAddress, asker.requestWord);
        }
        asker.requestKind = NO_REQUEST;
        served++;
        servedLast = core;
    }

    private void serveRead(int core, int address) {
        int line = lineOf(address);
        boolean elsewhere = shareElsewhere(core, line);
        Core asker = cores[core];
        asker.cache.fill(line, elsewhere ? SHARED : EXCLUSIVE);
        asker.lastWord = asker.cache.words[address];
    }

    private boolean shareElsewhere(int core, int line) {
        boolean found = false;
        for (int other = 0; other < cores.length; other++) {
            if (other != core && cores[other].cache.holds(line)) {
                cores[other].cache.share(line);
                found = true;
            }
        }
        return found;
    }

    private void takeLine(int core, int line) {
        invalidateElsewhere(core, line);
        Cache cache = cores[core].cache;
        if (cache.holds(line)) {
            cache.states[line] = MODIFIED;
            cache.use(line);
            upgrades++;
        } else {
            cache.fill(line, MODIFIED);
        }
    }

    private void invalidateElsewhere(int core, int line) {
        for (int other = 0; other < cores.length; other++) {
            if (other != core && cores[other].cache.holds(line)) {
                cores[other].cache.drop(line);
                invalidations++;
            }
        }
    }

    private static final class MainMemory {
        private final int[] words = new int[WORDS];
        private int writeBacks;
    }

    /**
     * Rows are indexed by line and address, not by place: no call tells which place of its set a
     * line is in, only how many places are taken and which line was used longest ago.
     */
    private static final class Cache {
        private final MainMemory main;
        private final int ways;
        private final int[] states = new int[LINES];
        private final int[] usedAt = new int[LINES];
        private final int[] words = new int[WORDS];
        private int uses;

        private Cache(MainMemory main, int ways) {
            this.main = main;
            this.ways = ways;
        }

        private boolean holds(int line) {
            return states[line] != INVALID;
        }

        private boolean owns(int line) {
            return states[line] == EXCLUSIVE || states[line] == MODIFIED;
        }

        private void use(int line) {
            uses++;
            usedAt[line] = uses;
        }

        private void put(int address, int word) {
            int line = lineOf(address);
            words[address] = word;
            states[line] = MODIFIED;
            use(line);
        }

        private void fill(int line, int state) {
            int leaving = lineToLeave(line % SETS);
            if (leaving != NO_LINE) {
                drop(leaving);
            }
            int first = line * WORDS_OF_LINE;
            System.arraycopy(main.words, first, words, first, WORDS_OF_LINE);
            states[line] = state;
            use(line);
        }

        private int lineToLeave(int set) {
            int held = 0;
            int oldest = NO_LINE;
            for (int line = set; line < LINES; line += SETS) {
                if (holds(line)) {
                    held++;
                    if (oldest == NO_LINE || usedAt[line] < usedAt[oldest]) {
                        oldest = line;
                    }
                }
            }
            return held < ways ? NO_LINE : oldest;
        }

        private void share(int line) {
            writeBackIfModified(line);
            states[line] = SHARED;
        }

        private void drop(int line) {
            writeBackIfModified(line);
            states[line] = INVALID;
        }

        private void writeBackIfModified(int line) {
            if (states[line] == MODIFIED) {
                int first = line * WORDS_OF_LINE;
                System.arraycopy(words, first, main.words, first, WORDS_OF_LINE);
                main.writeBacks++;
            }
        }
    }

    private static final class Core {
        private final Cache cache;
        private final int[] storeAddresses = new int[BUFFER_ROOM];
        private final int[] storeWords = new int[BUFFER_ROOM];
        private int stores;
        private int requestKind = NO_REQUEST;
        private int requestAddress;
        private int requestWord;
        private int lastWord;

        private Core(Cache cache) {
            this.cache = cache;
        }

        private boolean waits() {
            return requestKind != NO_REQUEST;
        }

        private void ask(int kind, int address, int word) {
            requestKind = kind;
            requestAddress = address;
            requestWord = word;
        }

        private int newestStoreTo(int address) {
            for (int place = stores - 1; place >= 0; place--) {
                if (storeAddresses[place] == address) {
                    return place;
                }
            }
            return NO_STORE;
        }

        private void appendStore(int address, int word) {
            storeAddresses[stores] = address;
            storeWords[stores] = word;
            stores++;
        }

        private void removeOldestStore() {
            for (int place = 1; place < stores; place++) {
                storeAddresses[place - 1] = storeAddresses[place];
                storeWords[place - 1] = storeWords[place];
            }
            stores--;
        }

        private int changeOrAsk(int kind, int address, int word) {
            if (cache.owns(lineOf(address))) {
                change(kind, address, word);
                return DONE;
            }
            ask(kind, address, word);
            return WAITS_NOW;
        }

        /** The request's kind names the change, so that one done at once and one that waited are the same. */
        private void change(int kind, int address, int word) {
            if (kind == OWN) {
                cache.put(address, word);
                removeOldestStore();
                return;
            }
            int before = cache.words[address];
            lastWord = before;
            cache.put(address, kind == RAISE ? before + word : word);
        }
    }
}

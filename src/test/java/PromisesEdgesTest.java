/** One test a sentence of the document's promises that names an edge or a refusal; what is refused changes nothing. */
public final class PromisesEdgesTest {
    private static final int BAD = SnoopingBus.BAD;
    private static final int BUSY = SnoopingBus.BUSY;
    private static final int FULL = SnoopingBus.FULL;
    private static final int NOT = SnoopingBus.NOT;
    private static final int NONE = SnoopingBus.NONE;
    private static final int MIN = Integer.MIN_VALUE;
    private static final int MAX = Integer.MAX_VALUE;
    // The numbers beside the edges, those that a mask or a remainder would let pass, and the farthest.
    private static final int[] NO_CORES_OF_TWO = {MIN, MIN + 1, -4, -2, -1, 2, 3, 4, 8, 1 << 30, MAX};
    private static final int[] NO_ADDRESSES = {MIN, MIN + 1, -32, -31, -4, -1, 32, 33, 64, 1 << 30, MAX};
    private static final int[] NO_LINES = {MIN, MIN + 1, -8, -7, -1, 8, 9, 16, 31, 1 << 30, MAX};
    private static final int[] NO_SETS = {MIN, MIN + 1, -2, -1, 2, 3, 4, 1 << 30, MAX};
    private static final int[] NO_COUNTS = {MIN, MIN + 1, -4, -1, 4, 5, 8, 1 << 30, MAX};

    /** A call with a core and one more argument, an address or a line or a set. */
    private interface Asked {
        int on(SnoopingBus x, int core, int what);
    }

    public static void main(String[] args) {
        newObject();
        load();
        store();
        drain();
        swap();
        add();
        bus();
        evict();
        lastRequestBuffered();
        stateCopyMemorySeen();
        count();
        victim();
        Due.holds("Nothing is promised beyond the answers and state changes described above", PromisesEdgesTest::tellingChangesNothing);
        Due.close();
    }

    // What the objects of the twins have behind them.

    private static void nothing(SnoopingBus x) {
    }

    /** Core 0 has lines 0 (modified), 2 (exclusive), 1 and 3 (shared), core 1 has 1 and 3 (shared) and waits; nothing buffered. */
    private static void mixed(SnoopingBus x) {
        Steps.own(x, 0, 0, 10);
        Steps.fetch(x, 0, 8);
        Steps.own(x, 0, 4, 11);
        Steps.fetch(x, 1, 4);
        Steps.fetch(x, 0, 12);
        Steps.fetch(x, 1, 12);
        x.load(1, 0);
    }

    private static void mixedAndStored(SnoopingBus x) {
        mixed(x);
        Steps.stores(x, 0, 1, 2);
    }

    private static void mixedAndFull(SnoopingBus x) {
        mixed(x);
        Steps.stores(x, 0, 1, 4);
    }

    /** As mixed, but core 0 waits, too, for a line that it shares. */
    private static void mixedAndTrading(SnoopingBus x) {
        mixed(x);
        x.swap(0, 5, 77);
    }

    /** As mixed, but core 0 waits to raise a word of a line that is nowhere. */
    private static void mixedAndRaising(SnoopingBus x) {
        mixed(x);
        x.add(0, 31, 77);
    }

    private static void mixedAndReading(SnoopingBus x) {
        mixed(x);
        x.load(0, 31);
    }

    /** Core 0 has four stores and waits with the oldest of them. */
    private static void mixedAndOwning(SnoopingBus x) {
        mixed(x);
        Steps.stores(x, 0, 16, 4);
        x.drain(0);
    }

    private static void badCores(String name, Asked call) {
        for (int core : NO_CORES_OF_TWO) {
            Twins.refused(name + " of core " + core, PromisesEdgesTest::mixedAndStored, x -> call.on(x, core, 0), BAD);
        }
        for (int size = 2; size <= 4; size++) {
            SnoopingBus x = new SnoopingBus(size, 1);
            Due.is(name + " of core -1 of " + size, call.on(x, -1, 0), BAD);
            Due.is(name + " of core " + size + " of " + size, call.on(x, size, 0), BAD);
            boolean refused = call.on(x, size - 1, 0) == BAD;
            Due.is(name + " of core " + (size - 1) + " of " + size + " is BAD", refused ? 1 : 0, 0);
        }
    }

    private static void bad(String name, int[] wrong, Asked call) {
        for (int what : wrong) {
            Twins.refused(name + " of " + what, PromisesEdgesTest::mixed, x -> call.on(x, 0, what), BAD);
            Twins.refused(name + " of " + what + " by a core that waits", PromisesEdgesTest::mixedAndTrading, x -> call.on(x, 0, what), BAD);
            Due.is(name + " of no core and " + what, call.on(new SnoopingBus(2, 1), 2, what), BAD);
        }
    }

    private static void busy(String name, Asked call) {
        for (int what = 0; what < 8; what += 7) {
            int asked = what;
            Twins.refused(name + " while it reads", PromisesEdgesTest::mixedAndReading, x -> call.on(x, 0, asked), BUSY);
            Twins.refused(name + " while it owns", PromisesEdgesTest::mixedAndOwning, x -> call.on(x, 0, asked), BUSY);
            Twins.refused(name + " while it trades", PromisesEdgesTest::mixedAndTrading, x -> call.on(x, 0, asked), BUSY);
            Twins.refused(name + " while it raises", PromisesEdgesTest::mixedAndRaising, x -> call.on(x, 0, asked), BUSY);
        }
        SnoopingBus x = new SnoopingBus(2, 1);
        x.load(0, 0);
        boolean refused = call.on(x, 1, 0) == BUSY;
        Due.is(name + " of the core that does not wait is BUSY", refused ? 1 : 0, 0);
        x.bus();
        refused = call.on(x, 0, 0) == BUSY;
        Due.is(name + " of the core that waits no more is BUSY", refused ? 1 : 0, 0);
    }

    private static void newObject() {
        Due.holds("C is cores, but 2 when that is less", () -> {
            for (int cores : new int[] {MIN, MIN + 1, -2, -1, 0, 1, 2}) {
                sizeIs(cores, 2);
            }
        });
        Due.holds("and 4 when it is more", () -> {
            sizeIs(3, 3);
            for (int cores : new int[] {4, 5, 6, 8, 1 << 30, MAX}) {
                sizeIs(cores, 4);
            }
        });
        Due.holds("WAYS is ways, but 1 to 3 likewise.", () -> {
            for (int ways : new int[] {MIN, MIN + 1, -1, 0, 1}) {
                placesAre(ways, 1);
            }
            placesAre(2, 2);
            for (int ways : new int[] {3, 4, 5, 6, 1 << 30, MAX}) {
                placesAre(ways, 3);
            }
        });
    }

    private static void sizeIs(int cores, int size) {
        SnoopingBus x = new SnoopingBus(cores, 2);
        Due.is("cores " + cores + ": the last one", x.load(size - 1, 0), 1);
        Due.is("cores " + cores + ": behind it", x.load(size, 0), BAD);
        Due.is("cores " + cores + ": the first one", x.load(0, 0), 1);
        Due.is("cores " + cores + ": bus()", x.bus(), 0);
        Due.is("cores " + cores + ": bus()", x.bus(), size - 1);
    }

    private static void placesAre(int ways, int places) {
        for (int core = 0; core < 2; core++) {
            for (int set = 0; set < 2; set++) {
                SnoopingBus x = new SnoopingBus(2, ways);
                for (int i = 0; i < places; i++) {
                    Due.is("ways " + ways + ": room", x.victim(core, set), BAD);
                    Steps.fetch(x, core, 4 * set + 8 * i);
                }
                Due.is("ways " + ways + ": no room", x.victim(core, set), set);
            }
        }
    }

    private static void load() {
        Due.holds("LOAD: 0 when it is done, 1 when the core waits now.", () -> {
            SnoopingBus x = new SnoopingBus(2, 1);
            for (int address = 0; address < 32; address += 31) {
                Due.is("load(0, " + address + ")", x.load(0, address), 1);
                Due.is("it waits", x.request(0), 1 + 8 * address);
                x.bus();
                Due.is("load(0, " + address + ") again", x.load(0, address), 0);
                Due.is("it does not wait", x.request(0), 0);
            }
        });
        Due.holds("load: BAD when there is no such core", () -> badCores("load", (x, core, what) -> x.load(core, what)));
        Due.holds("load: BAD when there is no such address", () -> bad("load", NO_ADDRESSES, (x, core, what) -> x.load(core, what)));
        Due.holds("load: BUSY.", () -> busy("load", (x, core, what) -> x.load(core, what)));
    }

    private static void store() {
        Due.holds("A store comes to the end of the buffer: how many there are.", () -> {
            SnoopingBus x = new SnoopingBus(2, 1);
            Steps.own(x, 0, 0, 0);
            int[] words = {MIN, MAX, -1, 0};
            for (int i = 0; i < 4; i++) {
                Due.is("store", x.store(0, i, words[i]), i + 1);
                Due.is("buffered", x.buffered(0), i + 1);
            }
            for (int i = 0; i < 4; i++) {
                Due.is("drain", x.drain(0), 0);
                Due.is("the word whole: copy(0, " + i + ")", x.copy(0, i), words[i]);
            }
            Due.is("from one on again", x.store(0, 31, 1), 1);
        });
        Due.holds("store: BAD, no such core", () -> badCores("store", (x, core, what) -> x.store(core, what, 5)));
        Due.holds("store: BAD, no such address", () -> {
            bad("store", NO_ADDRESSES, (x, core, what) -> x.store(core, what, 5));
            Twins.refused("BAD before FULL", PromisesEdgesTest::mixedAndFull, x -> x.store(0, 32, 5), BAD);
        });
        Due.holds("store: BUSY", () -> busy("store", (x, core, what) -> x.store(core, what, 5)));
        Due.holds("store: FULL.", () -> {
            Twins.refused("a fifth", PromisesEdgesTest::mixedAndFull, x -> x.store(0, 1, 5), FULL);
            Twins.refused("a fifth to a line that is nowhere", PromisesEdgesTest::mixedAndFull, x -> x.store(0, 31, 5), FULL);
            SnoopingBus x = new SnoopingBus(2, 1);
            Steps.stores(x, 0, 0, 3);
            Due.is("the fourth has room", x.store(0, 0, 4), 4);
            Due.is("the fifth has none", x.store(0, 0, 5), FULL);
            x.drain(0);
            x.bus();
            Due.is("there is room for one again", x.store(0, 0, 5), 4);
            Due.is("and no more", x.store(0, 0, 6), FULL);
        });
    }

    private static void drain() {
        Due.holds("DRAIN: 0 or 1 likewise.", () -> {
            SnoopingBus x = new SnoopingBus(2, 1);
            Steps.stores(x, 0, 31, 4);
            Due.is("drain(0)", x.drain(0), 1);
            Due.is("it waits", x.request(0), 2 + 8 * 31);
            x.bus();
            for (int i = 0; i < 3; i++) {
                Due.is("drain(0)", x.drain(0), 0);
                Due.is("it does not wait", x.request(0), 0);
            }
        });
        Due.holds("drain: BAD when there is no such core", () -> badCores("drain", (x, core, what) -> x.drain(core)));
        Due.holds("drain: BUSY", () -> busy("drain", (x, core, what) -> x.drain(core)));
        Due.holds("NOT when the buffer is empty.", () -> {
            Twins.refused("drain of a new object", PromisesEdgesTest::nothing, x -> x.drain(0), NOT);
            Twins.refused("drain of nothing", PromisesEdgesTest::mixed, x -> x.drain(0), NOT);
            Due.is("another core's stores do not count", drainBesideStores(), NOT);
            SnoopingBus x = new SnoopingBus(2, 1);
            Steps.own(x, 0, 0, 0);
            for (int many = 1; many <= 4; many++) {
                Steps.stores(x, 0, 0, many);
                for (int i = 0; i < many; i++) {
                    Due.is("drain of " + many, x.drain(0), 0);
                }
                Due.is("drain after " + many, x.drain(0), NOT);
                Due.is("buffered", x.buffered(0), 0);
            }
        });
    }

    private static int drainBesideStores() {
        SnoopingBus x = new SnoopingBus(2, 1);
        Steps.stores(x, 1, 0, 4);
        return x.drain(0);
    }

    private static void swap() {
        Due.holds("SWAP: 0 or 1 likewise.", () -> {
            SnoopingBus x = new SnoopingBus(2, 1);
            for (int address = 0; address < 32; address += 31) {
                Due.is("swap(0, " + address + ")", x.swap(0, address, MIN), 1);
                Due.is("it waits", x.request(0), 3 + 8 * address);
                x.bus();
                Due.is("swap again", x.swap(0, address, MAX), 0);
                Due.is("the word before", x.last(0), MIN);
                Due.is("the word now", x.seen(address), MAX);
            }
        });
        Due.holds("swap: BAD, no such core", () -> badCores("swap", (x, core, what) -> x.swap(core, what, 5)));
        Due.holds("swap: BAD, no such address", () -> {
            bad("swap", NO_ADDRESSES, (x, core, what) -> x.swap(core, what, 5));
            Twins.refused("BAD before NOT", PromisesEdgesTest::mixedAndStored, x -> x.swap(0, -1, 5), BAD);
        });
        Due.holds("swap: BUSY", () -> busy("swap", (x, core, what) -> x.swap(core, what, 5)));
        Due.holds("swap: NOT when the buffer is not empty.", () -> withStores("swap", (x, core, what) -> x.swap(core, what, 5)));
    }

    private static void add() {
        Due.holds("ADD: 0 or 1 likewise.", () -> {
            SnoopingBus x = new SnoopingBus(2, 1);
            for (int address = 0; address < 32; address += 31) {
                Due.is("add(0, " + address + ")", x.add(0, address, MAX), 1);
                Due.is("it waits", x.request(0), 4 + 8 * address);
                x.bus();
                Due.is("add again", x.add(0, address, 1), 0);
                Due.is("the word before", x.last(0), MAX);
                Due.is("the word now", x.seen(address), MIN);
            }
        });
        Due.holds("add: BAD, no such core", () -> badCores("add", (x, core, what) -> x.add(core, what, 5)));
        Due.holds("add: BAD, no such address", () -> {
            bad("add", NO_ADDRESSES, (x, core, what) -> x.add(core, what, 5));
            Twins.refused("BAD before NOT", PromisesEdgesTest::mixedAndStored, x -> x.add(0, -1, 5), BAD);
        });
        Due.holds("add: BUSY", () -> busy("add", (x, core, what) -> x.add(core, what, 5)));
        Due.holds("add: NOT when the buffer is not empty.", () -> withStores("add", (x, core, what) -> x.add(core, what, 5)));
    }

    private static void withStores(String name, Asked call) {
        int[] addresses = {0, 1, 4, 8, 31};
        for (int address : addresses) {
            Twins.refused(name + " with two stores", PromisesEdgesTest::mixedAndStored, x -> call.on(x, 0, address), NOT);
            Twins.refused(name + " with four stores", PromisesEdgesTest::mixedAndFull, x -> call.on(x, 0, address), NOT);
        }
        SnoopingBus x = new SnoopingBus(2, 1);
        Steps.own(x, 0, 0, 1);
        Steps.stores(x, 0, 0, 1);
        Due.is(name + " with one store", call.on(x, 0, 0), NOT);
        x.drain(0);
        Due.is(name + " when it has left", call.on(x, 0, 0), 0);
    }

    private static void bus() {
        Due.holds("The bus serves a request: that of which core", () -> {
            for (int size = 2; size <= 4; size++) {
                for (int core = 0; core < size; core++) {
                    SnoopingBus x = new SnoopingBus(size, 1);
                    x.load(core, 31);
                    Due.is("of " + size + " core " + core, x.bus(), core);
                    Due.is("of " + size + " nobody else", x.bus(), NONE);
                }
            }
        });
        Due.holds("bus: NONE.", () -> {
            Twins.refused("bus() of a new object", PromisesEdgesTest::nothing, SnoopingBus::bus, NONE);
            Twins.refused("bus() when all are served", x -> {
                mixedAndFull(x);
                x.bus();
            }, SnoopingBus::bus, NONE);
            SnoopingBus x = new SnoopingBus(4, 1);
            Due.is("nobody", x.bus(), NONE);
            Due.is("still nobody", x.bus(), NONE);
            Due.is("nobody was served", x.count(0), 0);
            x.load(0, 32);
            x.drain(0);
            Due.is("a refused call does not wait", x.bus(), NONE);
            Steps.stores(x, 0, 0, 4);
            Due.is("a store does not wait by itself", x.bus(), NONE);
        });
    }

    private static void evict() {
        Due.holds("A core's line, if it has it, leaves its cache, written back if it was modified: the state that it had.",
                PromisesEdgesTest::evictInEachState);
        Due.holds("evict: if it has it", () -> {
            Twins.refused("evict of a new object", PromisesEdgesTest::nothing, x -> x.evict(0, 0), 0);
            Twins.refused("evict of a line that is not there", PromisesEdgesTest::mixedAndStored, x -> x.evict(0, 7), 0);
            SnoopingBus x = Steps.inState(3);
            Due.is("another core's line", x.evict(1, Steps.LINE), 0);
            Due.is("stays there", x.state(0, Steps.LINE), 3);
            Due.is("once", x.evict(0, Steps.LINE), 3);
            Due.is("twice", x.evict(0, Steps.LINE), 0);
        });
        Due.holds("evict: BAD when there is no such core", () -> badCores("evict", (x, core, what) -> x.evict(core, what)));
        Due.holds("evict: BAD when there is no such line", () -> {
            bad("evict", NO_LINES, (x, core, what) -> x.evict(core, what));
            Due.is("line 7", new SnoopingBus(2, 1).evict(0, 7), 0);
        });
        Due.holds("evict: BUSY.", () -> busy("evict", (x, core, what) -> x.evict(core, what)));
    }

    private static void evictInEachState() {
        for (int state = 0; state <= 3; state++) {
            SnoopingBus x = Steps.inState(state);
            Steps.fetch(x, 0, 4);
            x.store(0, Steps.ADDRESS, 5);
            int backs = x.count(1);
            int last = x.last(0);
            Due.is("evict in state " + state, x.evict(0, Steps.LINE), state);
            Due.is("gone from state " + state, x.state(0, Steps.LINE), 0);
            Due.is("written back from state " + state, x.count(1) - backs, state == 3 ? 1 : 0);
            Due.is("memory(12) from state " + state, x.memory(12), state == 3 ? 1 : 0);
            Due.is("memory(13) from state " + state, x.memory(13), Steps.WORD);
            Due.is("the other core's from state " + state, x.state(1, Steps.LINE), state == 1 ? 1 : 0);
            Due.is("the other line from state " + state, x.state(0, 1), 2);
            Due.is("the buffer from state " + state, x.buffered(0), 1);
            Due.is("the last word from state " + state, x.last(0), last);
            Due.is("no request from state " + state, x.request(0), 0);
            Due.is("a place holds none from state " + state, x.victim(0, 1), BAD);
            Due.is("not because of another core from state " + state, x.count(2), 0);
        }
    }

    private static void lastRequestBuffered() {
        Due.holds("The last word of a core; 0 when there is none such.", () -> {
            for (int size = 2; size <= 4; size++) {
                SnoopingBus x = new SnoopingBus(size, 1);
                for (int core = 0; core < size; core++) {
                    x.store(core, 31, 50 + core);
                    x.load(core, 31);
                }
                for (int core = 0; core < size; core++) {
                    Due.is("of " + size + " last(" + core + ")", x.last(core), 50 + core);
                }
                Due.is("of " + size + " last(-1)", x.last(-1), 0);
                Due.is("of " + size + " last(" + size + ")", x.last(size), 0);
            }
            SnoopingBus x = new SnoopingBus(2, 1);
            Steps.own(x, 0, 0, 5);
            x.load(0, 0);
            for (int core : NO_CORES_OF_TWO) {
                Due.is("last(" + core + ")", x.last(core), 0);
            }
        });
        Due.holds("The request of a core: 0 none, 1 READ, 2 OWN, 3 TRADE, 4 RAISE; plus 8 times its address.", PromisesEdgesTest::requests);
        Due.holds("request: BAD when there is no such core.", () -> badCores("request", (x, core, what) -> x.request(core)));
        Due.holds("How many stores are in a core's buffer", () -> {
            SnoopingBus x = new SnoopingBus(2, 1);
            Due.is("empty", x.buffered(0), 0);
            Steps.stores(x, 0, 0, 4);
            Due.is("full", x.buffered(0), 4);
            x.store(0, 0, 5);
            Due.is("not more than full", x.buffered(0), 4);
            x.drain(0);
            Due.is("while it waits", x.buffered(0), 4);
            x.bus();
            Due.is("after the bus", x.buffered(0), 3);
            for (int i = 0; i < 5; i++) {
                x.drain(0);
            }
            Due.is("not less than empty", x.buffered(0), 0);
            Due.is("another core's", x.buffered(1), 0);
        });
        Due.holds("buffered: BAD.", () -> badCores("buffered", (x, core, what) -> x.buffered(core)));
    }

    private static void requests() {
        for (int kind = 1; kind <= 4; kind++) {
            for (int address = 0; address < 32; address++) {
                SnoopingBus x = new SnoopingBus(4, 1);
                int core = (kind + address) % 4;
                Due.is("none yet", x.request(core), 0);
                Requests.ask(x, core, kind, address);
                Due.is("another core's", x.request((core + 1) % 4), 0);
                x.bus();
                Due.is("none any more", x.request(core), 0);
            }
        }
    }

    private static void stateCopyMemorySeen() {
        Due.holds("The state of a line in a core's cache (0 when it is not there)", () -> {
            for (int state = 0; state <= 3; state++) {
                SnoopingBus x = Steps.inState(state);
                Due.is("the line before", x.state(0, Steps.LINE - 1), 0);
                Due.is("the line", x.state(0, Steps.LINE), state);
                Due.is("the line behind", x.state(0, Steps.LINE + 1), 0);
                Due.is("line 0", x.state(0, 0), 0);
                Due.is("line 7", x.state(0, 7), 0);
            }
        });
        Due.holds("state: BAD when there is no such core", () -> badCores("state", (x, core, what) -> x.state(core, what)));
        Due.holds("state: BAD when there is no such line", () -> bad("state", NO_LINES, (x, core, what) -> x.state(core, what)));
        Due.holds("The word at an address in a core's copy; 0 when it has none.", PromisesEdgesTest::copies);
        Due.holds("Memory's word at an address; 0 when there is none such.", () -> {
            SnoopingBus x = everyWordStored();
            for (int address = 0; address < 32; address++) {
                Due.is("memory(" + address + ")", x.memory(address), 100 + address);
            }
            for (int address : NO_ADDRESSES) {
                Due.is("memory(" + address + ")", x.memory(address), 0);
            }
        });
        Due.holds("The word seen at an address; 0 when there is none such.", () -> {
            SnoopingBus x = everyWordStored();
            Steps.own(x, 1, 0, -1);
            Steps.own(x, 1, 31, -2);
            for (int address = 1; address < 31; address++) {
                Due.is("seen(" + address + ")", x.seen(address), 100 + address);
            }
            Due.is("seen(0)", x.seen(0), -1);
            Due.is("seen(31)", x.seen(31), -2);
            for (int address : NO_ADDRESSES) {
                Due.is("seen(" + address + ")", x.seen(address), 0);
            }
        });
    }

    /** The word at each address is 100 more than it, in memory and in no cache. */
    private static SnoopingBus everyWordStored() {
        SnoopingBus x = new SnoopingBus(2, 3);
        for (int address = 0; address < 32; address++) {
            x.swap(0, address, 100 + address);
            x.bus();
        }
        for (int line = 0; line < 8; line++) {
            x.evict(0, line);
        }
        return x;
    }

    private static void copies() {
        SnoopingBus x = everyWordStored();
        for (int address = 0; address < 32; address++) {
            Due.is("none: copy(0, " + address + ")", x.copy(0, address), 0);
        }
        Steps.fetch(x, 0, 0);
        Steps.fetch(x, 0, 31);
        for (int address = 0; address < 32; address++) {
            boolean there = address < 4 || address >= 28;
            Due.is("copy(0, " + address + ")", x.copy(0, address), there ? 100 + address : 0);
        }
        Due.is("another core has none", x.copy(1, 0), 0);
        for (int core : NO_CORES_OF_TWO) {
            Due.is("copy(" + core + ", 0)", x.copy(core, 0), 0);
        }
        for (int address : NO_ADDRESSES) {
            Due.is("copy(0, " + address + ")", x.copy(0, address), 0);
        }
        x.evict(0, 0);
        Due.is("none when it left", x.copy(0, 0), 0);
        Steps.own(x, 1, 31, 1);
        Due.is("none when it was taken", x.copy(0, 31), 0);
        Steps.fetch(x, 1, 4);
        Steps.fetch(x, 1, 12);
        Steps.fetch(x, 1, 20);
        Due.is("none when it left for another line", x.copy(1, 31), 0);
        for (int size = 2; size <= 4; size++) {
            SnoopingBus y = new SnoopingBus(size, 1);
            Steps.own(y, size - 1, 31, 8);
            Due.is("of " + size + " the last core's", y.copy(size - 1, 31), 8);
            Due.is("of " + size + " the core behind it", y.copy(size, 31), 0);
        }
    }

    private static void count() {
        Due.holds("0 how many requests the bus has served", () -> {
            SnoopingBus x = new SnoopingBus(2, 1);
            Due.is("at first", x.count(0), 0);
            for (int kind = 1; kind <= 4; kind++) {
                Requests.ask(x, 0, kind, 8 * (kind - 1));
                Due.is("waiting is not served", x.count(0), kind - 1);
                x.bus();
                Due.is("served", x.count(0), kind);
                x.bus();
                Due.is("nobody is not counted", x.count(0), kind);
            }
            x.add(0, 24, 1);
            x.load(0, 24);
            Due.is("what is done at once is not counted", x.count(0), 4);
        });
        Due.holds("1 how many times a line was written back", PromisesEdgesTest::writeBacks);
        Due.holds("2 how many times a line became invalid because of another core", PromisesEdgesTest::invalidations);
        Due.holds("3 how many upgrades there were", PromisesEdgesTest::upgrades);
        Due.holds("BAD for others.", () -> {
            for (int what : NO_COUNTS) {
                Twins.refused("count(" + what + ")", PromisesEdgesTest::mixed, x -> x.count(what), BAD);
            }
            Due.is("count(3) is none of them", new SnoopingBus(2, 1).count(3), 0);
        });
    }

    private static void writeBacks() {
        SnoopingBus x = new SnoopingBus(2, 1);
        Due.is("at first", x.count(1), 0);
        Steps.own(x, 0, 0, 1);
        x.evict(0, 0);
        Due.is("by evict", x.count(1), 1);
        Steps.own(x, 0, 0, 2);
        Steps.fetch(x, 0, 8);
        Due.is("by a fill", x.count(1), 2);
        Steps.own(x, 0, 0, 3);
        Steps.fetch(x, 1, 0);
        Due.is("by another's read", x.count(1), 3);
        Steps.own(x, 0, 0, 4);
        Steps.own(x, 1, 0, 5);
        Due.is("by another's trade", x.count(1), 4);
        Steps.own(x, 0, 8, 6);
        Steps.fetch(x, 0, 0);
        Due.is("two at once", x.count(1), 6);
        x.evict(0, 0);
        x.evict(1, 0);
        Due.is("not what is shared", x.count(1), 6);
        Steps.fetch(x, 0, 0);
        x.evict(0, 0);
        Due.is("not what is exclusive", x.count(1), 6);
        Steps.own(x, 0, 0, 5);
        x.evict(0, 0);
        Due.is("also when the words are the same", x.count(1), 7);
    }

    private static void invalidations() {
        for (int others = 0; others <= 3; others++) {
            SnoopingBus x = new SnoopingBus(4, 1);
            Due.is("at first", x.count(2), 0);
            for (int core = 0; core < others; core++) {
                Steps.fetch(x, core, 0);
            }
            Due.is("not by a read", x.count(2), 0);
            Steps.own(x, 3, 0, 1);
            Due.is("with " + others + " others", x.count(2), others);
            x.evict(3, 0);
            Due.is("not by evict", x.count(2), others);
            Steps.own(x, 3, 0, 1);
            Steps.fetch(x, 3, 8);
            Due.is("not by a fill", x.count(2), others);
        }
    }

    private static void upgrades() {
        SnoopingBus x = new SnoopingBus(2, 2);
        Due.is("at first", x.count(3), 0);
        Steps.fetch(x, 0, 0);
        x.swap(0, 0, 1);
        Due.is("not from exclusive", x.count(3), 0);
        x.swap(0, 0, 2);
        Due.is("not from modified", x.count(3), 0);
        Steps.own(x, 1, 0, 3);
        Due.is("not from invalid", x.count(3), 0);
        for (int kind = 2; kind <= 4; kind++) {
            Steps.fetch(x, 0, 0);
            Requests.ask(x, 1, kind, 0);
            Due.is("not before it is served", x.count(3), kind - 2);
            x.bus();
            Due.is("from shared", x.count(3), kind - 1);
        }
    }

    private static void victim() {
        Due.holds("The line of a set (0 or 1) that would leave a core's cache if one came to it", () -> {
            for (int ways = 1; ways <= 3; ways++) {
                for (int set = 0; set < 2; set++) {
                    SnoopingBus x = new SnoopingBus(2, ways);
                    for (int i = 0; i < ways; i++) {
                        Steps.fetch(x, 0, 4 * set + 8 * i);
                    }
                    int leaving = x.victim(0, set);
                    Due.is("ways " + ways + " victim(0, " + set + ")", leaving, set);
                    Steps.fetch(x, 0, 4 * set + 24);
                    Due.is("ways " + ways + " it left", x.state(0, leaving), 0);
                    Due.is("ways " + ways + " the next", x.victim(0, set), ways == 1 ? set + 6 : set + 2);
                }
            }
        });
        Due.holds("victim: BAD when there is a place that holds none", PromisesEdgesTest::victimWithRoom);
        Due.holds("victim: or no such core", () -> {
            for (int core : NO_CORES_OF_TWO) {
                Twins.refused("victim of core " + core, PromisesEdgesTest::mixed, x -> x.victim(core, 0), BAD);
            }
            for (int size = 2; size <= 4; size++) {
                SnoopingBus x = new SnoopingBus(size, 1);
                Steps.fetch(x, size - 1, 0);
                Due.is("of " + size + " the last core", x.victim(size - 1, 0), 0);
                Due.is("of " + size + " behind it", x.victim(size, 0), BAD);
            }
        });
        Due.holds("victim: or no such set.", () -> {
            bad("victim", NO_SETS, (x, core, what) -> x.victim(core, what));
            for (int line = 2; line < 8; line++) {
                SnoopingBus x = new SnoopingBus(2, 1);
                Steps.fetch(x, 0, 4 * line);
                Due.is("a line is no set: victim(0, " + line + ")", x.victim(0, line), BAD);
            }
        });
    }

    private static void victimWithRoom() {
        for (int ways = 1; ways <= 3; ways++) {
            SnoopingBus x = new SnoopingBus(2, ways);
            for (int i = 0; i < ways; i++) {
                Due.is("ways " + ways + " with " + i, x.victim(0, 1), BAD);
                Steps.fetch(x, 0, 4 + 8 * i);
            }
            Due.is("ways " + ways + " full", x.victim(0, 1), 1);
            Due.is("ways " + ways + " the other set", x.victim(0, 0), BAD);
            Due.is("ways " + ways + " the other core", x.victim(1, 1), BAD);
            x.evict(0, 1);
            Due.is("ways " + ways + " one left", x.victim(0, 1), BAD);
            Steps.fetch(x, 0, 4);
            Due.is("ways " + ways + " full again", x.victim(0, 1), ways == 1 ? 1 : 3);
            Steps.own(x, 1, 4, 1);
            Due.is("ways " + ways + " one was taken", x.victim(0, 1), BAD);
        }
    }

    private static void tellingChangesNothing() {
        Twins.tellingChangesNothing("a new object", PromisesEdgesTest::nothing);
        Twins.tellingChangesNothing("mixed", PromisesEdgesTest::mixed);
        Twins.tellingChangesNothing("stored", PromisesEdgesTest::mixedAndFull);
        Twins.tellingChangesNothing("trading", PromisesEdgesTest::mixedAndTrading);
        Twins.tellingChangesNothing("owning", PromisesEdgesTest::mixedAndOwning);
    }
}

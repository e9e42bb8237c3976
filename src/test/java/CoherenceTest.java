import java.util.ArrayDeque;
import java.util.Deque;
import java.util.Iterator;
import java.util.Random;

/**
 * Long runs of calls, the same each time, after each of which all cores must see one memory: FLAT
 * is written by a drain, a swap or an add when it is done, and knows of no cache. Unlike Model it
 * says nothing about how the words get there. Each call is looked at from the outside alone.
 */
public final class CoherenceTest {
    private static final int RUNS = 1500;
    private static final int CALLS = 512;
    private static final int MOST_CALLS_A_STEP = 12;
    private static final int ENOUGH_WRONG = 20;
    private static final int LOAD = 0;
    private static final int DRAIN = 1;
    private static final int SWAP = 2;
    private static final int ADD = 3;

    private final int cores;
    private final Random random;
    private final int addresses;
    private final SnoopingBus x;
    private final int[] flat = new int[32];
    private final Deque<int[]>[] buffers;
    private final int[][] asked;
    private int calls = 0;

    @SuppressWarnings("unchecked")
    private CoherenceTest(int seed) {
        random = new Random(seed);
        cores = 2 + seed % 3;
        int ways = 1 + seed / 3 % 3;
        addresses = 8 << random.nextInt(3);
        x = new SnoopingBus(cores, ways);
        buffers = new Deque[cores];
        for (int core = 0; core < cores; core++) {
            buffers[core] = new ArrayDeque<>();
        }
        asked = new int[cores][];
    }

    public static void main(String[] args) {
        for (int seed = 1; seed <= RUNS && Due.wrongSoFar() < ENOUGH_WRONG; seed++) {
            CoherenceTest run = new CoherenceTest(seed);
            while (run.calls < CALLS - MOST_CALLS_A_STEP && Due.wrongSoFar() < ENOUGH_WRONG) {
                run.callOne("run " + seed + ", call " + run.calls + ": ");
            }
        }
        Due.close();
    }

    private void callOne(String told) {
        int core = random.nextInt(cores);
        int address = random.nextInt(addresses);
        int word = random.nextInt();
        int kind = random.nextInt(8);
        if (kind < 2) {
            serve(told + "bus() ");
        } else if (asked[core] == null) {
            change(told, kind, core, address, word);
        }
        calls++;
        lineIsCoherent(told, random.nextInt(addresses));
    }

    private void change(String told, int kind, int core, int address, int word) {
        boolean empty = buffers[core].isEmpty();
        switch (kind) {
            case 2: case 3:
                ask(told + "load ", core, new int[] {LOAD, address, 0}, x.load(core, address));
                break;
            case 4:
                if (buffers[core].size() < 4) {
                    buffers[core].addLast(new int[] {address, word});
                    Due.is(told + "store", x.store(core, address, word), buffers[core].size());
                }
                break;
            case 5:
                if (empty) {
                    ask(told + "swap ", core, new int[] {SWAP, address, word}, x.swap(core, address, word));
                } else {
                    ask(told + "drain ", core, new int[] {DRAIN, 0, 0}, x.drain(core));
                }
                break;
            case 6:
                if (empty) {
                    ask(told + "add ", core, new int[] {ADD, address, word}, x.add(core, address, word));
                } else {
                    ask(told + "drain ", core, new int[] {DRAIN, 0, 0}, x.drain(core));
                }
                break;
            default:
                x.evict(core, address / 4);
        }
    }

    private void ask(String told, int core, int[] what, int answer) {
        if (answer == 0) {
            done(told, core, what);
        } else {
            Due.is(told + "answer", answer, 1);
            asked[core] = what;
        }
    }

    private void serve(String told) {
        int core = x.bus();
        if (core == SnoopingBus.NONE) {
            for (int other = 0; other < cores; other++) {
                Due.is(told + "while core " + other + " waits", asked[other] == null ? 0 : 1, 0);
            }
            return;
        }
        boolean waited = core >= 0 && core < cores && asked[core] != null;
        Due.is(told + "for a core that waits", waited ? 1 : 0, 1);
        if (waited) {
            int[] what = asked[core];
            asked[core] = null;
            done(told, core, what);
        }
    }

    private void done(String told, int core, int[] what) {
        int address = what[1];
        calls++;
        if (what[0] == DRAIN) {
            int[] store = buffers[core].removeFirst();
            flat[store[0]] = store[1];
            Due.is(told + "seen", x.seen(store[0]), store[1]);
            return;
        }
        Due.is(told + "last", x.last(core), what[0] == LOAD ? own(core, address) : flat[address]);
        if (what[0] == SWAP) {
            flat[address] = what[2];
        }
        if (what[0] == ADD) {
            flat[address] += what[2];
        }
    }

    /** A core sees its own stores before all others do. */
    private int own(int core, int address) {
        for (Iterator<int[]> newest = buffers[core].descendingIterator(); newest.hasNext();) {
            int[] store = newest.next();
            if (store[0] == address) {
                return store[1];
            }
        }
        return flat[address];
    }

    /** Each copy is the one word that all see; who may write has the line alone; who did not write has memory's word. */
    private void lineIsCoherent(String told, int address) {
        int holders = 0;
        int highest = 0;
        int memory = x.memory(address);
        for (int core = 0; core < cores; core++) {
            int state = x.state(core, address / 4);
            if (state != 0) {
                holders++;
                highest = Math.max(highest, state);
                Due.is(told + "copy(" + core + ", " + address + ")", x.copy(core, address), flat[address]);
                calls++;
            }
        }
        Due.is(told + "seen(" + address + ")", x.seen(address), flat[address]);
        if (highest >= 2) {
            Due.is(told + "cores with line " + address / 4, holders, 1);
        }
        if (highest < 3) {
            Due.is(told + "memory(" + address + ")", memory, flat[address]);
        }
        calls += 2 + cores;
    }
}

import java.util.Random;

/**
 * Long runs of calls, the same each time, on SnoopingBus and on Model: every answer is compared,
 * and at the end of each run all that can be asked. A run stays within the document's 512 calls.
 */
public final class ModelTest {
    private static final int RUNS = 6000;
    private static final int MOST_CALLS = 264;
    private static final int ENOUGH_WRONG = 20;
    private static final int[] ODD = {Integer.MIN_VALUE, -8, -1, 2, 3, 4, 5, 8, 9, 32, 33, Integer.MAX_VALUE};

    private final Random random;
    private final int cores;
    private final int addresses;
    private final SnoopingBus real;
    private final Model model;
    private final StringBuilder told = new StringBuilder();

    private ModelTest(int seed) {
        random = new Random(seed);
        int askedCores = random.nextInt(6);
        int askedWays = random.nextInt(5);
        cores = Math.max(2, Math.min(4, askedCores));
        // Few addresses make the cores meet, many make lines leave their caches.
        addresses = random.nextBoolean() ? 32 : 4 << random.nextInt(4);
        real = new SnoopingBus(askedCores, askedWays);
        model = new Model(askedCores, askedWays);
        told.append("new(").append(askedCores).append(", ").append(askedWays).append(")");
    }

    public static void main(String[] args) {
        for (int seed = 1; seed <= RUNS && Due.wrongSoFar() < ENOUGH_WRONG; seed++) {
            ModelTest run = new ModelTest(seed);
            run.change();
            run.askAll();
        }
        Due.close();
    }

    private void change() {
        int calls = random.nextInt(MOST_CALLS + 1);
        int before = Due.wrongSoFar();
        for (int i = 0; i < calls && Due.wrongSoFar() == before; i++) {
            callOne();
        }
    }

    private int pick(int size) {
        return random.nextInt(40) == 0 ? ODD[random.nextInt(ODD.length)] : random.nextInt(size);
    }

    private int word() {
        return random.nextInt(4) == 0 ? random.nextInt() : random.nextInt(100);
    }

    private void compare(String call, int got, int want) {
        told.append("; ").append(call).append(" = ").append(got);
        Due.is(got == want ? call : told.toString(), got, want);
    }

    private void callOne() {
        int core = pick(cores);
        int address = pick(addresses);
        int word = word();
        String at = "(" + core + ", " + address + ")";
        String with = "(" + core + ", " + address + ", " + word + ")";
        switch (random.nextInt(10)) {
            case 0: case 1:
                compare("load" + at, real.load(core, address), model.load(core, address));
                break;
            case 2:
                compare("store" + with, real.store(core, address, word), model.store(core, address, word));
                break;
            case 3: case 4:
                compare("drain(" + core + ")", real.drain(core), model.drain(core));
                break;
            case 5:
                compare("swap" + with, real.swap(core, address, word), model.swap(core, address, word));
                break;
            case 6:
                compare("add" + with, real.add(core, address, word), model.add(core, address, word));
                break;
            case 7: case 8:
                compare("bus()", real.bus(), model.bus());
                break;
            default:
                rareCall(core, address);
        }
    }

    private void rareCall(int core, int address) {
        int line = pick(8);
        int set = pick(2);
        switch (random.nextInt(5)) {
            case 0: case 1:
                compare("evict(" + core + ", " + line + ")", real.evict(core, line), model.evict(core, line));
                break;
            case 2:
                compare("last(" + core + ")", real.last(core), model.last(core));
                break;
            case 3:
                compare("victim(" + core + ", " + set + ")", real.victim(core, set), model.victim(core, set));
                break;
            default:
                compare("seen(" + address + ")", real.seen(address), model.seen(address));
        }
    }

    private void askAll() {
        for (int core = 0; core < cores; core++) {
            askCore(core);
        }
        for (int address = 0; address < 32; address++) {
            compare("memory(" + address + ")", real.memory(address), model.memory(address));
            compare("seen(" + address + ")", real.seen(address), model.seen(address));
        }
        for (int what = 0; what < 4; what++) {
            compare("count(" + what + ")", real.count(what), model.count(what));
        }
    }

    private void askCore(int core) {
        compare("last(" + core + ")", real.last(core), model.last(core));
        compare("request(" + core + ")", real.request(core), model.request(core));
        compare("buffered(" + core + ")", real.buffered(core), model.buffered(core));
        for (int set = 0; set < 2; set++) {
            compare("victim(" + core + ", " + set + ")", real.victim(core, set), model.victim(core, set));
        }
        for (int line = 0; line < 8; line++) {
            compare("state(" + core + ", " + line + ")", real.state(core, line), model.state(core, line));
        }
        for (int address = 0; address < 32; address++) {
            compare("copy(" + core + ", " + address + ")", real.copy(core, address), model.copy(core, address));
        }
    }
}

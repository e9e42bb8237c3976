/**
 * Two objects with the same calls behind them: what one call more on one of them has changed shows
 * in the answers of the two, now or after the calls that go on from there. All objects have 2 cores
 * and 2 ways, so that two rounds of answers stay within the document's 512 calls.
 */
final class Twins {
    private static final int CORES = 2;
    private static final int WAYS = 2;

    interface Calls {
        void on(SnoopingBus x);
    }

    interface Call {
        int on(SnoopingBus x);
    }

    private Twins() {
    }

    /** A call that is refused answers what is due and changes nothing. */
    static void refused(String told, Calls before, Call call, int due) {
        SnoopingBus spared = made(before);
        SnoopingBus tried = made(before);
        Due.is(told, call.on(tried), due);
        same(told + " changed", spared, tried);
        goOn(told + " changed what comes", spared, tried);
        same(told + " changed what comes", spared, tried);
    }

    /** The calls that only tell change nothing, whatever they are asked. */
    static void tellingChangesNothing(String told, Calls before) {
        SnoopingBus spared = made(before);
        SnoopingBus asked = made(before);
        tellAll(asked);
        goOn(told, spared, asked);
        same(told, spared, asked);
    }

    private static SnoopingBus made(Calls before) {
        SnoopingBus x = new SnoopingBus(CORES, WAYS);
        before.on(x);
        return x;
    }

    private static void same(String told, SnoopingBus x, SnoopingBus y) {
        for (int core = 0; core < CORES; core++) {
            sameCore(told, core, x, y);
        }
        for (int address = 0; address < 32; address++) {
            Due.is(told + " memory(" + address + ")", y.memory(address), x.memory(address));
            Due.is(told + " seen(" + address + ")", y.seen(address), x.seen(address));
        }
        for (int what = 0; what < 4; what++) {
            Due.is(told + " count(" + what + ")", y.count(what), x.count(what));
        }
    }

    private static void sameCore(String told, int core, SnoopingBus x, SnoopingBus y) {
        Due.is(told + " last(" + core + ")", y.last(core), x.last(core));
        Due.is(told + " request(" + core + ")", y.request(core), x.request(core));
        Due.is(told + " buffered(" + core + ")", y.buffered(core), x.buffered(core));
        for (int set = 0; set < 2; set++) {
            Due.is(told + " victim(" + core + ", " + set + ")", y.victim(core, set), x.victim(core, set));
        }
        for (int line = 0; line < 8; line++) {
            Due.is(told + " state(" + core + ", " + line + ")", y.state(core, line), x.state(core, line));
        }
        for (int address = 0; address < 32; address++) {
            Due.is(told + " copy(" + core + ", " + address + ")", y.copy(core, address), x.copy(core, address));
        }
    }

    /** Serves all who wait, drains all buffers, and lets all wait for a line of their own, so that what was hidden comes out. */
    private static void goOn(String told, SnoopingBus x, SnoopingBus y) {
        for (int i = 0; i <= CORES; i++) {
            Due.is(told + " bus()", y.bus(), x.bus());
        }
        for (int i = 0; i < 4; i++) {
            for (int core = 0; core < CORES; core++) {
                Due.is(told + " drain(" + core + ")", y.drain(core), x.drain(core));
            }
            Due.is(told + " bus()", y.bus(), x.bus());
            Due.is(told + " bus()", y.bus(), x.bus());
        }
        for (int core = 0; core < CORES; core++) {
            int address = 20 + 8 * core;
            Due.is(told + " load(" + core + ", " + address + ")", y.load(core, address), x.load(core, address));
        }
        for (int i = 0; i <= CORES; i++) {
            Due.is(told + " bus()", y.bus(), x.bus());
        }
    }

    /** Also one below and one above what there is; downwards, against the order in which the lines came. */
    private static void tellAll(SnoopingBus x) {
        for (int core = CORES; core >= -1; core--) {
            x.last(core);
            x.request(core);
            x.buffered(core);
            for (int set = 2; set >= -1; set--) {
                x.victim(core, set);
            }
            for (int line = 8; line >= -1; line--) {
                x.state(core, line);
            }
            for (int address = 32; address >= -1; address--) {
                x.copy(core, address);
            }
        }
        for (int address = 32; address >= -1; address--) {
            x.memory(address);
            x.seen(address);
        }
        for (int what = 4; what >= -1; what--) {
            x.count(what);
        }
    }
}

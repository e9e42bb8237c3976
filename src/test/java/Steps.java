/** Steps of calls that the tests of this folder share, each call looked at. */
final class Steps {
    /** The line of {@link #inState}, the word of it that is known, and that word. */
    static final int LINE = 3;
    static final int ADDRESS = 13;
    static final int WORD = 130;

    private Steps() {
    }

    /** Makes a core load a word by way of the bus, when nobody else waits. */
    static void fetch(SnoopingBus x, int core, int address) {
        Due.is("fetch: load(" + core + ", " + address + ")", x.load(core, address), 1);
        Due.is("fetch: bus()", x.bus(), core);
    }

    /** Makes a core's line modified by way of the bus, when nobody else waits. */
    static void own(SnoopingBus x, int core, int address, int word) {
        Due.is("own: swap(" + core + ", " + address + ")", x.swap(core, address, word), 1);
        Due.is("own: bus()", x.bus(), core);
    }

    /** Fills a core's buffer with so many stores to one address. */
    static void stores(SnoopingBus x, int core, int address, int many) {
        for (int i = 1; i <= many; i++) {
            Due.is("stores: store(" + core + ", " + address + ")", x.store(core, address, i), i);
        }
    }

    /** Two cores of two ways: core 0 has LINE in the state, and WORD is at ADDRESS; core 1 shares it at most. */
    static SnoopingBus inState(int state) {
        SnoopingBus x = new SnoopingBus(2, 2);
        own(x, 1, ADDRESS, WORD);
        Due.is("inState: evict", x.evict(1, LINE), 3);
        if (state == 3) {
            own(x, 0, ADDRESS - 1, 1);
        } else if (state != 0) {
            fetch(x, 0, ADDRESS);
        }
        if (state == 1) {
            fetch(x, 1, ADDRESS);
        }
        Due.is("inState: state", x.state(0, LINE), state);
        return x;
    }
}

/** One method a promise: ordinary inputs, the edges that the document names, and wrong inputs. */
public final class PromisesTest {
    private static final int BAD = SnoopingBus.BAD;
    private static final int BUSY = SnoopingBus.BUSY;
    private static final int FULL = SnoopingBus.FULL;
    private static final int NOT = SnoopingBus.NOT;
    private static final int NONE = SnoopingBus.NONE;
    private static final int MIN = Integer.MIN_VALUE;
    private static final int MAX = Integer.MAX_VALUE;
    private static final int[] NO_CORES_OF_TWO = {MIN, -2, -1, 2, 3, 4, MAX};
    private static final int[] NO_ADDRESSES = {MIN, -4, -1, 32, 33, MAX};
    private static final int[] NO_LINES = {MIN, -1, 8, 9, MAX};
    private static final int[] NO_SETS = {MIN, -1, 2, 3, MAX};

    public static void main(String[] args) {
        constants();
        promise1Cores();
        promise1Ways();
        promise1AllIsEmpty();
        promise2Load();
        promise2LoadFromTheBuffer();
        promise2LoadUses();
        promise2LoadRefused();
        promise3Store();
        promise3StoreRefused();
        promise4Drain();
        promise4DrainOwned();
        promise4DrainRefused();
        promise5Swap();
        promise5SwapRefused();
        promise6Add();
        promise6AddRefused();
        promise7Turns();
        promise7Read();
        promise7ReadSharesWithoutUse();
        promise7ReadLeavesOthersStates();
        promise7Own();
        promise7TradeAndRaise();
        promise7Upgrade();
        promise7UpgradeLostWhileWaiting();
        promise7Fill();
        promise8Evict();
        promise8EvictRefused();
        promise9Last();
        promise10Request();
        promise11Buffered();
        promise12State();
        promise13Copy();
        promise14Memory();
        promise15Seen();
        promise16Count();
        promise17Victim();
        promise17VictimAfterUse();
        Due.close();
    }

    private static void constants() {
        Due.is("BAD", BAD, -1);
        Due.is("BUSY", BUSY, -2);
        Due.is("FULL", FULL, -3);
        Due.is("NOT", NOT, -4);
        Due.is("NONE", NONE, -5);
    }

    private static void promise1Cores() {
        int[] asked = {MIN, -1, 0, 1, 2, 3, 4, 5, 100, MAX};
        int[] due = {2, 2, 2, 2, 2, 3, 4, 4, 4, 4};
        for (int i = 0; i < asked.length; i++) {
            SnoopingBus x = new SnoopingBus(asked[i], 1);
            for (int core = 0; core < 6; core++) {
                Due.is("1: cores " + asked[i] + ": buffered(" + core + ")", x.buffered(core), core < due[i] ? 0 : BAD);
            }
        }
    }

    private static void promise1Ways() {
        int[] asked = {MIN, -1, 0, 1, 2, 3, 4, 5, 100, MAX};
        int[] due = {1, 1, 1, 1, 2, 3, 3, 3, 3, 3};
        for (int i = 0; i < asked.length; i++) {
            for (int set = 0; set < 2; set++) {
                SnoopingBus x = new SnoopingBus(2, asked[i]);
                for (int filled = 1; filled <= 4; filled++) {
                    Steps.fetch(x, 0, 4 * set + 8 * (filled - 1));
                    int leaving = filled < due[i] ? BAD : set + 2 * (filled - due[i]);
                    Due.is("1: ways " + asked[i] + ": victim(0, " + set + ")", x.victim(0, set), leaving);
                }
            }
        }
    }

    private static void promise1AllIsEmpty() {
        SnoopingBus x = new SnoopingBus(4, 2);
        for (int core = 0; core < 4; core++) {
            Due.is("1: last", x.last(core), 0);
            Due.is("1: request", x.request(core), 0);
            Due.is("1: buffered", x.buffered(core), 0);
            for (int line = 0; line < 8; line++) {
                Due.is("1: state", x.state(core, line), 0);
            }
        }
        for (int address = 0; address < 32; address++) {
            Due.is("1: memory", x.memory(address), 0);
            Due.is("1: seen", x.seen(address), 0);
        }
        for (int what = 0; what < 4; what++) {
            Due.is("1: count", x.count(what), 0);
        }
        Due.is("1: bus()", x.bus(), NONE);
    }

    private static void promise2Load() {
        SnoopingBus x = new SnoopingBus(2, 1);
        Due.is("2: not in the cache", x.load(1, 31), 1);
        Due.is("2: the request", x.request(1), 1 + 8 * 31);
        Due.is("2: a waiting core", x.load(1, 31), BUSY);
        Due.is("2: a waiting core, another address", x.load(1, 0), BUSY);
        Due.is("2: nothing came yet", x.state(1, 7), 0);
        Due.is("2: bus()", x.bus(), 1);
        for (int address = 28; address < 32; address++) {
            Due.is("2: in the cache", x.load(1, address), 0);
        }
        Due.is("2: the line before it", x.load(1, 27), 1);
    }

    private static void promise2LoadFromTheBuffer() {
        SnoopingBus x = new SnoopingBus(2, 1);
        x.store(0, 8, 10);
        x.store(0, 9, 20);
        x.store(0, 8, 30);
        Due.is("2: buffered", x.load(0, 8), 0);
        Due.is("2: the newest", x.last(0), 30);
        Due.is("2: buffered, another", x.load(0, 9), 0);
        Due.is("2: that one's", x.last(0), 20);
        Due.is("2: no request", x.request(0), 0);
        Due.is("2: the same line is not enough", x.load(0, 10), 1);
        Due.is("2: read", x.request(0), 1 + 8 * 10);
        Due.is("2: bus()", x.bus(), 0);
        Due.is("2: the copy is memory's, not the buffer's", x.copy(0, 8), 0);
        Due.is("2: the buffer before the cache", x.load(0, 8), 0);
        Due.is("2: the newest still", x.last(0), 30);
        Due.is("2: another core's buffer is not looked at", x.load(1, 8), 1);
        Due.is("2: bus()", x.bus(), 1);
        Due.is("2: memory's word", x.last(1), 0);
    }

    private static void promise2LoadUses() {
        SnoopingBus x = new SnoopingBus(2, 2);
        Steps.fetch(x, 0, 0);
        Steps.fetch(x, 0, 8);
        Due.is("2: line 0 is older", x.victim(0, 0), 0);
        x.store(0, 1, 5);
        Due.is("2: from the buffer", x.load(0, 1), 0);
        Due.is("2: which does not use the line", x.victim(0, 0), 0);
        Due.is("2: from the cache", x.load(0, 2), 0);
        Due.is("2: which uses the line", x.victim(0, 0), 2);
        Due.is("2: the copy's word is the last", x.last(0), 0);
        Due.is("2: drain", x.drain(0), 0);
        Due.is("2: from the cache", x.load(0, 1), 0);
        Due.is("2: the copy's word is the last", x.last(0), 5);
    }

    private static void promise2LoadRefused() {
        SnoopingBus x = new SnoopingBus(2, 1);
        for (int core : NO_CORES_OF_TWO) {
            Due.is("2: no core " + core, x.load(core, 0), BAD);
        }
        for (int address : NO_ADDRESSES) {
            Due.is("2: no address " + address, x.load(0, address), BAD);
        }
        Due.is("2: nothing asked", x.bus(), NONE);
        x.load(0, 0);
        Due.is("2: BAD before BUSY", x.load(0, 32), BAD);
    }

    private static void promise3Store() {
        SnoopingBus x = new SnoopingBus(3, 1);
        for (int stores = 1; stores <= 4; stores++) {
            Due.is("3: store", x.store(2, 31, stores), stores);
        }
        Due.is("3: no room", x.store(2, 31, 5), FULL);
        Due.is("3: no room elsewhere either", x.store(2, 0, 5), FULL);
        Due.is("3: still four", x.buffered(2), 4);
        Due.is("3: the fifth did not come", x.load(2, 31), 0);
        Due.is("3: the newest is the fourth", x.last(2), 4);
        Due.is("3: another core has room", x.store(0, 31, 9), 1);
        Due.is("3: nothing is asked", x.bus(), NONE);
        Due.is("3: nothing is written", x.seen(31), 0);
        Due.is("3: drain", x.drain(2), 1);
        Due.is("3: BUSY before FULL", x.store(2, 0, 5), BUSY);
        Due.is("3: bus()", x.bus(), 2);
        Due.is("3: room again", x.store(2, 30, 6), 4);
        for (int word = 2; word <= 4; word++) {
            Due.is("3: drain", x.drain(2), 0);
            Due.is("3: in their order", x.seen(31), word);
        }
        Due.is("3: drain", x.drain(2), 0);
        Due.is("3: the last to come", x.seen(30), 6);
        Due.is("3: and no others", x.drain(2), NOT);
    }

    private static void promise3StoreRefused() {
        SnoopingBus x = new SnoopingBus(2, 1);
        for (int core : NO_CORES_OF_TWO) {
            Due.is("3: no core " + core, x.store(core, 0, 1), BAD);
        }
        for (int address : NO_ADDRESSES) {
            Due.is("3: no address " + address, x.store(0, address, 1), BAD);
        }
        Due.is("3: nothing came", x.buffered(0), 0);
        x.load(0, 0);
        Due.is("3: BUSY", x.store(0, 0, 1), BUSY);
        Due.is("3: BAD before BUSY", x.store(0, -1, 1), BAD);
        Due.is("3: still nothing", x.buffered(0), 0);
        SnoopingBus full = new SnoopingBus(2, 1);
        for (int stores = 1; stores <= 4; stores++) {
            full.store(0, 0, stores);
        }
        Due.is("3: BAD before FULL", full.store(0, 32, 1), BAD);
    }

    private static void promise4Drain() {
        SnoopingBus x = new SnoopingBus(2, 1);
        x.store(0, 13, 7);
        x.store(0, 2, 8);
        Due.is("4: the line is not there", x.drain(0), 1);
        Due.is("4: own", x.request(0), 2 + 8 * 13);
        Due.is("4: the store stays", x.buffered(0), 2);
        Due.is("4: BUSY", x.drain(0), BUSY);
        Due.is("4: bus()", x.bus(), 0);
        Due.is("4: the store has left", x.buffered(0), 1);
        Due.is("4: put", x.copy(0, 13), 7);
        Due.is("4: modified", x.state(0, 3), 3);
        Due.is("4: waits no more", x.request(0), 0);
        Due.is("4: the last word is as before", x.last(0), 0);
        Due.is("4: the next one", x.drain(0), 1);
        Due.is("4: its own line", x.request(0), 2 + 8 * 2);
    }

    private static void promise4DrainOwned() {
        SnoopingBus x = new SnoopingBus(2, 2);
        Steps.fetch(x, 0, 4);
        Steps.fetch(x, 0, 12);
        x.store(0, 5, 50);
        x.store(0, 6, 60);
        x.store(0, 5, 51);
        Due.is("4: exclusive", x.drain(0), 0);
        Due.is("4: the oldest is put", x.copy(0, 5), 50);
        Due.is("4: and no other", x.copy(0, 6), 0);
        Due.is("4: modified", x.state(0, 1), 3);
        Due.is("4: used", x.victim(0, 1), 3);
        Due.is("4: the others stay", x.buffered(0), 2);
        Due.is("4: modified before", x.drain(0), 0);
        Due.is("4: put", x.copy(0, 6), 60);
        Due.is("4: the last", x.drain(0), 0);
        Due.is("4: put over", x.copy(0, 5), 51);
        Due.is("4: memory waits", x.memory(5), 0);
        Due.is("4: the last word is as before", x.last(0), 0);
        Steps.fetch(x, 1, 4);
        x.store(0, 5, 52);
        Due.is("4: shared is not enough", x.drain(0), 1);
        Due.is("4: own", x.request(0), 2 + 8 * 5);
        Due.is("4: still shared", x.state(0, 1), 1);
    }

    private static void promise4DrainRefused() {
        SnoopingBus x = new SnoopingBus(2, 1);
        for (int core : NO_CORES_OF_TWO) {
            Due.is("4: no core " + core, x.drain(core), BAD);
        }
        Due.is("4: nothing to drain", x.drain(0), NOT);
        x.load(0, 0);
        Due.is("4: BUSY before NOT", x.drain(0), BUSY);
    }

    private static void promise5Swap() {
        SnoopingBus x = new SnoopingBus(2, 2);
        Due.is("5: not there", x.swap(0, 22, -9), 1);
        Due.is("5: trade", x.request(0), 3 + 8 * 22);
        Due.is("5: BUSY", x.swap(0, 22, 1), BUSY);
        Due.is("5: bus()", x.bus(), 0);
        Due.is("5: the old word", x.last(0), 0);
        Due.is("5: the new word", x.copy(0, 22), -9);
        Steps.fetch(x, 0, 4);
        Due.is("5: line 5 is older", x.victim(0, 1), 5);
        Due.is("5: modified", x.swap(0, 22, MIN), 0);
        Due.is("5: the old word", x.last(0), -9);
        Due.is("5: the new word", x.copy(0, 22), MIN);
        Due.is("5: used", x.victim(0, 1), 1);
        Due.is("5: exclusive", x.swap(0, 7, 6), 0);
        Due.is("5: modified now", x.state(0, 1), 3);
        Due.is("5: only that word", x.copy(0, 6), 0);
        Steps.fetch(x, 1, 7);
        Due.is("5: shared is not enough", x.swap(0, 7, 5), 1);
        Due.is("5: not yet", x.copy(0, 7), 6);
        Due.is("5: bus()", x.bus(), 0);
        Due.is("5: the word at the upgrade", x.last(0), 6);
        Due.is("5: put", x.seen(7), 5);
    }

    private static void promise5SwapRefused() {
        SnoopingBus x = new SnoopingBus(2, 1);
        for (int core : NO_CORES_OF_TWO) {
            Due.is("5: no core " + core, x.swap(core, 0, 1), BAD);
        }
        for (int address : NO_ADDRESSES) {
            Due.is("5: no address " + address, x.swap(0, address, 1), BAD);
        }
        Steps.own(x, 0, 0, 3);
        x.store(0, 16, 1);
        Due.is("5: the buffer is not empty", x.swap(0, 0, 4), NOT);
        Due.is("5: BAD before NOT", x.swap(0, 32, 4), BAD);
        Due.is("5: nothing put", x.copy(0, 0), 3);
        Due.is("5: nothing asked", x.request(0), 0);
        x.drain(0);
        Due.is("5: BUSY before NOT", x.swap(0, 0, 4), BUSY);
        Due.is("5: BAD before BUSY", x.swap(0, -1, 4), BAD);
    }

    private static void promise6Add() {
        SnoopingBus x = new SnoopingBus(2, 2);
        Due.is("6: not there", x.add(1, 9, MAX), 1);
        Due.is("6: raise", x.request(1), 4 + 8 * 9);
        Due.is("6: BUSY", x.add(1, 9, 1), BUSY);
        Due.is("6: bus()", x.bus(), 1);
        Due.is("6: the old word", x.last(1), 0);
        Due.is("6: the sum", x.copy(1, 9), MAX);
        Steps.fetch(x, 1, 0);
        Due.is("6: line 2 is older", x.victim(1, 0), 2);
        Due.is("6: modified", x.add(1, 9, 1), 0);
        Due.is("6: the old word", x.last(1), MAX);
        Due.is("6: wraps", x.copy(1, 9), MIN);
        Due.is("6: used", x.victim(1, 0), 0);
        Due.is("6: downwards", x.add(1, 9, -1), 0);
        Due.is("6: wraps back", x.copy(1, 9), MAX);
        Due.is("6: exclusive", x.add(1, 3, -4), 0);
        Due.is("6: modified now", x.state(1, 0), 3);
        Due.is("6: the sum", x.copy(1, 3), -4);
        Due.is("6: another core's, from the word there", x.add(0, 3, -5), 1);
        Due.is("6: bus()", x.bus(), 0);
        Due.is("6: the old word", x.last(0), -4);
        Due.is("6: the sum", x.seen(3), -9);
        Steps.fetch(x, 1, 3);
        Due.is("6: shared is not enough", x.add(0, 3, 1), 1);
        Due.is("6: adding nothing asks as well", x.add(1, 3, 0), 1);
    }

    private static void promise6AddRefused() {
        SnoopingBus x = new SnoopingBus(2, 1);
        for (int core : NO_CORES_OF_TWO) {
            Due.is("6: no core " + core, x.add(core, 0, 1), BAD);
        }
        for (int address : NO_ADDRESSES) {
            Due.is("6: no address " + address, x.add(0, address, 1), BAD);
        }
        Steps.own(x, 0, 0, 3);
        x.store(0, 16, 1);
        Due.is("6: the buffer is not empty", x.add(0, 0, 4), NOT);
        Due.is("6: BAD before NOT", x.add(0, 32, 4), BAD);
        Due.is("6: nothing put", x.copy(0, 0), 3);
        Due.is("6: nothing asked", x.request(0), 0);
        x.drain(0);
        Due.is("6: BUSY before NOT", x.add(0, 0, 4), BUSY);
        Due.is("6: BAD before BUSY", x.add(0, -1, 4), BAD);
    }

    private static void promise7Turns() {
        SnoopingBus x = new SnoopingBus(4, 1);
        Due.is("7: nobody", x.bus(), NONE);
        x.load(3, 0);
        x.load(2, 4);
        x.load(0, 8);
        Due.is("7: core 0 at first", x.bus(), 0);
        Due.is("7: then from 1 on", x.bus(), 2);
        x.load(0, 0);
        x.load(2, 0);
        Due.is("7: not back yet", x.bus(), 3);
        Due.is("7: around", x.bus(), 0);
        x.load(0, 16);
        x.load(1, 16);
        Due.is("7: the core behind", x.bus(), 1);
        Due.is("7: on", x.bus(), 2);
        Due.is("7: around", x.bus(), 0);
        Due.is("7: nobody", x.bus(), NONE);
        x.load(0, 24);
        Due.is("7: the one served last, when alone", x.bus(), 0);
        Due.is("7: nobody leaves the turn as it was", x.bus(), NONE);
        x.load(0, 0);
        x.load(1, 24);
        Due.is("7: so core 1 is next", x.bus(), 1);
        Due.is("7: then core 0", x.bus(), 0);
        SnoopingBus two = new SnoopingBus(2, 1);
        two.load(1, 0);
        Due.is("7: core 1 when 0 does not wait", two.bus(), 1);
        two.load(1, 8);
        two.load(0, 8);
        Due.is("7: around two", two.bus(), 0);
        Due.is("7: and on", two.bus(), 1);
    }

    private static void promise7Read() {
        SnoopingBus x = new SnoopingBus(3, 1);
        Steps.fetch(x, 0, 4);
        Due.is("7: alone: exclusive", x.state(0, 1), 2);
        Steps.fetch(x, 1, 5);
        Due.is("7: the other is shared", x.state(0, 1), 1);
        Due.is("7: and so is this", x.state(1, 1), 1);
        Due.is("7: nothing to write back", x.count(1), 0);
        Steps.own(x, 0, 6, 66);
        Due.is("7: the others lost it", x.state(1, 1), 0);
        Due.is("7: read of a modified line", x.load(2, 6), 1);
        Due.is("7: bus()", x.bus(), 2);
        Due.is("7: the word", x.last(2), 66);
        Due.is("7: written back", x.memory(6), 66);
        Due.is("7: counted", x.count(1), 1);
        Due.is("7: shared there", x.state(0, 1), 1);
        Due.is("7: shared here", x.state(2, 1), 1);
        Due.is("7: nobody became invalid by a read", x.count(2), 1);
        Due.is("7: the copy there stays", x.copy(0, 6), 66);
        x.evict(0, 1);
        Due.is("7: the one that is left stays shared", x.state(2, 1), 1);
        Steps.fetch(x, 0, 7);
        Due.is("7: shared with it", x.state(0, 1), 1);
        x.evict(0, 1);
        x.evict(2, 1);
        Steps.fetch(x, 0, 6);
        Due.is("7: nobody has it: exclusive", x.state(0, 1), 2);
        Due.is("7: memory's word", x.last(0), 66);
    }

    private static void promise7ReadSharesWithoutUse() {
        SnoopingBus x = new SnoopingBus(2, 2);
        Steps.own(x, 0, 0, 1);
        Steps.fetch(x, 0, 8);
        Steps.fetch(x, 1, 0);
        Due.is("7: shared, not used", x.victim(0, 0), 0);
        Steps.fetch(x, 0, 16);
        Due.is("7: so it left", x.state(0, 0), 0);
        Due.is("7: shared is not written back", x.count(1), 1);
        Due.is("7: leaving by itself is not by another core", x.count(2), 0);
    }

    private static void promise7ReadLeavesOthersStates() {
        SnoopingBus x = new SnoopingBus(4, 3);
        Steps.own(x, 0, 0, 1);
        Steps.own(x, 0, 8, 2);
        Steps.fetch(x, 1, 16);
        Steps.fetch(x, 2, 0);
        Due.is("7: another line stays modified", x.state(0, 2), 3);
        Due.is("7: another line stays exclusive", x.state(1, 4), 2);
        Steps.fetch(x, 3, 0);
        Due.is("7: three share", x.state(0, 0) + x.state(2, 0) + x.state(3, 0), 3);
    }

    private static void promise7Own() {
        SnoopingBus x = new SnoopingBus(4, 1);
        Steps.own(x, 0, 12, 1);
        x.store(1, 13, 2);
        x.drain(1);
        Due.is("7: bus()", x.bus(), 1);
        Due.is("7: written back", x.memory(12), 1);
        Due.is("7: invalid there", x.state(0, 3), 0);
        Due.is("7: modified here", x.state(1, 3), 3);
        Due.is("7: with the words of before", x.copy(1, 12), 1);
        Due.is("7: and the store's", x.copy(1, 13), 2);
        Due.is("7: no upgrade", x.count(3), 0);
        Due.is("7: invalid because of another", x.count(2), 1);
        Steps.fetch(x, 2, 12);
        Steps.fetch(x, 3, 12);
        x.store(0, 14, 3);
        x.drain(0);
        Due.is("7: bus()", x.bus(), 0);
        Due.is("7: three more became invalid", x.count(2), 4);
        Due.is("7: shared lines are not written back", x.count(1), 2);
        Due.is("7: the words", x.copy(0, 13), 2);
        Due.is("7: the store", x.copy(0, 14), 3);
    }

    private static void promise7TradeAndRaise() {
        SnoopingBus x = new SnoopingBus(2, 1);
        Steps.own(x, 0, 20, 100);
        Due.is("7: swap", x.swap(1, 20, 200), 1);
        Due.is("7: a change while it waits", x.add(0, 20, 5), 0);
        Due.is("7: bus()", x.bus(), 1);
        Due.is("7: trade takes the word of then", x.last(1), 105);
        Due.is("7: and puts its own", x.seen(20), 200);
        Due.is("7: add", x.add(0, 20, 7), 1);
        Due.is("7: a change while it waits", x.swap(1, 20, 300), 0);
        Due.is("7: bus()", x.bus(), 0);
        Due.is("7: raise takes the word of then", x.last(0), 300);
        Due.is("7: and puts the sum", x.seen(20), 307);
        Due.is("7: modified", x.state(0, 5), 3);
        Due.is("7: invalid there", x.state(1, 5), 0);
    }

    private static void promise7Upgrade() {
        SnoopingBus x = new SnoopingBus(3, 2);
        Steps.fetch(x, 0, 0);
        Steps.fetch(x, 1, 0);
        Steps.fetch(x, 0, 8);
        Due.is("7: line 0 is older", x.victim(0, 0), 0);
        x.store(0, 0, 9);
        x.drain(0);
        Due.is("7: bus()", x.bus(), 0);
        Due.is("7: an upgrade", x.count(3), 1);
        Due.is("7: modified", x.state(0, 0), 3);
        Due.is("7: used", x.victim(0, 0), 2);
        Due.is("7: nothing left for it", x.state(0, 2), 2);
        Due.is("7: invalid there", x.state(1, 0), 0);
        Due.is("7: counted", x.count(2), 1);
        Steps.fetch(x, 1, 0);
        x.evict(1, 0);
        Due.is("7: alone but shared still asks", x.add(0, 0, 1), 1);
        Due.is("7: bus()", x.bus(), 0);
        Due.is("7: an upgrade as well", x.count(3), 2);
        Due.is("7: nobody became invalid", x.count(2), 1);
    }

    private static void promise7UpgradeLostWhileWaiting() {
        SnoopingBus x = new SnoopingBus(2, 1);
        Steps.fetch(x, 1, 28);
        Steps.fetch(x, 0, 28);
        Due.is("7: both ask", x.swap(0, 28, 1), 1);
        Due.is("7: both ask", x.swap(1, 28, 2), 1);
        Due.is("7: bus()", x.bus(), 1);
        Due.is("7: an upgrade", x.count(3), 1);
        Due.is("7: the waiting core lost the line", x.state(0, 7), 0);
        Due.is("7: bus()", x.bus(), 0);
        Due.is("7: filled in, no upgrade", x.count(3), 1);
        Due.is("7: written back for it", x.memory(28), 2);
        Due.is("7: the word of then", x.last(0), 2);
        Due.is("7: put", x.seen(28), 1);
    }

    private static void promise7Fill() {
        SnoopingBus x = new SnoopingBus(2, 2);
        Steps.own(x, 0, 0, 5);
        Steps.own(x, 0, 9, 6);
        Steps.own(x, 0, 4, 7);
        Due.is("7: room for all", x.count(1), 0);
        Steps.fetch(x, 0, 16);
        Due.is("7: the oldest left", x.state(0, 0), 0);
        Due.is("7: written back", x.memory(0), 5);
        Due.is("7: counted", x.count(1), 1);
        Due.is("7: nobody because of another core", x.count(2), 0);
        Due.is("7: the other one stays", x.state(0, 2), 3);
        Due.is("7: the other set stays", x.state(0, 1), 3);
        Due.is("7: a copy that left", x.copy(0, 0), 0);
        Steps.own(x, 0, 2, 8);
        Due.is("7: a modified one left for a trade", x.memory(9), 6);
        Due.is("7: counted", x.count(1), 2);
        Due.is("7: the copy is memory's", x.copy(0, 0), 5);
        Steps.own(x, 1, 24, 1);
        Steps.own(x, 1, 16, 2);
        Due.is("7: of an unmodified line nothing is written", x.count(1), 2);
        Steps.fetch(x, 1, 2);
        Due.is("7: one there, one that left here", x.count(1), 4);
        Due.is("7: the one that left", x.memory(24), 1);
        Due.is("7: the one that is shared", x.memory(2), 8);
        x.evict(1, 4);
        Steps.fetch(x, 1, 8);
        Due.is("7: the free place is taken first", x.state(1, 0), 1);
    }

    private static void promise8Evict() {
        SnoopingBus x = new SnoopingBus(2, 2);
        Due.is("8: not there", x.evict(0, 7), 0);
        Steps.fetch(x, 0, 28);
        Due.is("8: exclusive", x.evict(0, 7), 2);
        Due.is("8: gone", x.state(0, 7), 0);
        Due.is("8: nothing written back", x.count(1), 0);
        Steps.fetch(x, 0, 28);
        Steps.fetch(x, 1, 28);
        Due.is("8: shared", x.evict(1, 7), 1);
        Due.is("8: the other stays shared", x.state(0, 7), 1);
        Steps.own(x, 1, 3, 44);
        Due.is("8: modified", x.evict(1, 0), 3);
        Due.is("8: written back", x.memory(3), 44);
        Due.is("8: counted", x.count(1), 1);
        Due.is("8: gone", x.copy(1, 3), 0);
        Due.is("8: seen as before", x.seen(3), 44);
        Due.is("8: again", x.evict(1, 0), 0);
        Due.is("8: counted once", x.count(1), 1);
        Due.is("8: not because of another core", x.count(2), 0);
        Due.is("8: to ask again", x.load(1, 3), 1);
    }

    private static void promise8EvictRefused() {
        SnoopingBus x = new SnoopingBus(2, 1);
        for (int core : NO_CORES_OF_TWO) {
            Due.is("8: no core " + core, x.evict(core, 0), BAD);
        }
        for (int line : NO_LINES) {
            Due.is("8: no line " + line, x.evict(0, line), BAD);
        }
        Steps.own(x, 0, 0, 1);
        x.load(0, 4);
        Due.is("8: BUSY", x.evict(0, 0), BUSY);
        Due.is("8: BUSY, not there", x.evict(0, 1), BUSY);
        Due.is("8: BAD before BUSY", x.evict(0, 8), BAD);
        Due.is("8: it stays", x.state(0, 0), 3);
    }

    private static void promise9Last() {
        SnoopingBus x = new SnoopingBus(2, 1);
        x.store(1, 0, -7);
        x.load(1, 0);
        Due.is("9: a core's own", x.last(1), -7);
        Due.is("9: not another's", x.last(0), 0);
        Due.is("9: store", x.store(1, 0, 8), 2);
        Due.is("9: a store leaves it", x.last(1), -7);
        x.load(1, 4);
        Due.is("9: a request leaves it", x.last(1), -7);
        x.bus();
        Due.is("9: served", x.last(1), 0);
        for (int core : NO_CORES_OF_TWO) {
            Due.is("9: no core " + core, x.last(core), 0);
        }
    }

    private static void promise10Request() {
        for (int address = 0; address < 32; address++) {
            SnoopingBus x = new SnoopingBus(4, 1);
            x.load(0, address);
            x.store(1, address, 5);
            x.drain(1);
            x.swap(2, address, 5);
            x.add(3, address, 5);
            for (int core = 0; core < 4; core++) {
                Due.is("10: request(" + core + ")", x.request(core), core + 1 + 8 * address);
            }
            x.bus();
            Due.is("10: none", x.request(0), 0);
            Due.is("10: still", x.request(1), 2 + 8 * address);
        }
        SnoopingBus x = new SnoopingBus(2, 1);
        for (int core : NO_CORES_OF_TWO) {
            Due.is("10: no core " + core, x.request(core), BAD);
        }
    }

    private static void promise11Buffered() {
        SnoopingBus x = new SnoopingBus(2, 1);
        Steps.own(x, 1, 0, 1);
        for (int stores = 1; stores <= 4; stores++) {
            x.store(1, stores - 1, 9);
            Due.is("11: more", x.buffered(1), stores);
        }
        for (int stores = 3; stores >= 0; stores--) {
            x.drain(1);
            Due.is("11: fewer", x.buffered(1), stores);
        }
        Due.is("11: another core's", x.buffered(0), 0);
        for (int core : NO_CORES_OF_TWO) {
            Due.is("11: no core " + core, x.buffered(core), BAD);
        }
    }

    private static void promise12State() {
        SnoopingBus x = new SnoopingBus(2, 3);
        Steps.fetch(x, 0, 31);
        Steps.fetch(x, 0, 0);
        Steps.fetch(x, 1, 0);
        Steps.own(x, 0, 11, 1);
        int[] due = {1, 0, 3, 0, 0, 0, 0, 2};
        for (int line = 0; line < 8; line++) {
            Due.is("12: state(0, " + line + ")", x.state(0, line), due[line]);
        }
        for (int core : NO_CORES_OF_TWO) {
            Due.is("12: no core " + core, x.state(core, 0), BAD);
        }
        for (int line : NO_LINES) {
            Due.is("12: no line " + line, x.state(0, line), BAD);
        }
    }

    private static void promise13Copy() {
        SnoopingBus x = new SnoopingBus(2, 1);
        Steps.own(x, 0, 17, -3);
        Due.is("13: the copy", x.copy(0, 17), -3);
        Due.is("13: beside it", x.copy(0, 16), 0);
        Due.is("13: another core has none", x.copy(1, 17), 0);
        x.evict(0, 4);
        Due.is("13: none any more", x.copy(0, 17), 0);
        Steps.fetch(x, 1, 16);
        Due.is("13: memory's words", x.copy(1, 17), -3);
        x.store(1, 17, 12);
        Due.is("13: not the buffer's", x.copy(1, 17), -3);
        Steps.own(x, 0, 16, 1);
        Due.is("13: none after another took it", x.copy(1, 17), 0);
        for (int core : NO_CORES_OF_TWO) {
            Due.is("13: no core " + core, x.copy(core, 17), 0);
        }
        for (int address : NO_ADDRESSES) {
            Due.is("13: no address " + address, x.copy(0, address), 0);
        }
    }

    private static void promise14Memory() {
        SnoopingBus x = new SnoopingBus(2, 1);
        Steps.own(x, 0, 28, 1);
        x.swap(0, 29, 2);
        x.swap(0, 30, 3);
        x.swap(0, 31, 4);
        Due.is("14: not yet", x.memory(31), 0);
        x.evict(0, 7);
        for (int address = 28; address < 32; address++) {
            Due.is("14: all words of the line", x.memory(address), address - 27);
        }
        Due.is("14: no other", x.memory(27), 0);
        for (int address : NO_ADDRESSES) {
            Due.is("14: no address " + address, x.memory(address), 0);
        }
    }

    private static void promise15Seen() {
        for (int core = 0; core < 4; core++) {
            SnoopingBus x = new SnoopingBus(4, 1);
            Steps.own(x, core, 10, 5);
            Due.is("15: the modified copy", x.seen(10), 5);
            Due.is("15: beside it", x.seen(9), 0);
            Due.is("15: memory", x.memory(10), 0);
            x.store(core, 10, 6);
            Due.is("15: a buffered store is not seen", x.seen(10), 5);
            Steps.fetch(x, (core + 1) % 4, 10);
            Due.is("15: shared: memory's", x.seen(10), 5);
            x.evict(core, 2);
            x.evict((core + 1) % 4, 2);
            Due.is("15: in no cache: memory's", x.seen(10), 5);
        }
        SnoopingBus x = new SnoopingBus(2, 1);
        for (int address : NO_ADDRESSES) {
            Due.is("15: no address " + address, x.seen(address), 0);
        }
    }

    private static void promise16Count() {
        SnoopingBus x = new SnoopingBus(4, 1);
        for (int core = 0; core < 4; core++) {
            Steps.fetch(x, core, 0);
        }
        Due.is("16: served", x.count(0), 4);
        x.bus();
        Due.is("16: nobody served", x.count(0), 4);
        Steps.own(x, 2, 0, 1);
        Due.is("16: served", x.count(0), 5);
        Due.is("16: three lines became invalid", x.count(2), 3);
        Due.is("16: an upgrade", x.count(3), 1);
        Due.is("16: nothing written back", x.count(1), 0);
        x.swap(2, 0, 2);
        Due.is("16: done at once is not served", x.count(0), 5);
        Due.is("16: nor an upgrade", x.count(3), 1);
        Steps.own(x, 3, 0, 1);
        Due.is("16: written back", x.count(1), 1);
        Due.is("16: invalid", x.count(2), 4);
        Due.is("16: filled in is no upgrade", x.count(3), 1);
        int[] others = {MIN, -1, 4, 5, MAX};
        for (int what : others) {
            Due.is("16: no " + what, x.count(what), BAD);
        }
    }

    private static void promise17Victim() {
        SnoopingBus x = new SnoopingBus(2, 1);
        Due.is("17: empty", x.victim(0, 0), BAD);
        Steps.fetch(x, 0, 24);
        Due.is("17: the only one", x.victim(0, 0), 6);
        Due.is("17: the other set", x.victim(0, 1), BAD);
        Steps.fetch(x, 0, 28);
        Due.is("17: of the other set", x.victim(0, 1), 7);
        Due.is("17: another core", x.victim(1, 0), BAD);
        x.evict(0, 6);
        Due.is("17: a place holds none", x.victim(0, 0), BAD);
        Steps.own(x, 1, 28, 1);
        Due.is("17: after another took it", x.victim(0, 1), BAD);
        for (int core : NO_CORES_OF_TWO) {
            Due.is("17: no core " + core, x.victim(core, 1), BAD);
        }
        Steps.fetch(x, 1, 24);
        for (int set : NO_SETS) {
            Due.is("17: no set " + set, x.victim(1, set), BAD);
        }
    }

    private static void promise17VictimAfterUse() {
        SnoopingBus x = new SnoopingBus(2, 3);
        Steps.fetch(x, 1, 4);
        Steps.fetch(x, 1, 28);
        Due.is("17: a place holds none", x.victim(1, 1), BAD);
        Steps.fetch(x, 1, 12);
        Due.is("17: the first that came", x.victim(1, 1), 1);
        x.load(1, 4);
        Due.is("17: the next", x.victim(1, 1), 7);
        x.swap(1, 28, 1);
        Due.is("17: the next", x.victim(1, 1), 3);
        Due.is("17: to ask changes nothing", x.victim(1, 1), 3);
        x.copy(1, 12);
        x.state(1, 3);
        x.seen(12);
        Due.is("17: nor do the others that only tell", x.victim(1, 1), 3);
        x.load(1, 20);
        Due.is("17: nor does waiting", x.victim(1, 1), 3);
        x.bus();
        Due.is("17: it left", x.state(1, 3), 0);
        Due.is("17: the next", x.victim(1, 1), 1);
        x.evict(1, 7);
        Steps.fetch(x, 1, 12);
        Due.is("17: a line that comes back is the newest", x.victim(1, 1), 1);
        x.load(1, 4);
        Due.is("17: in the order of use", x.victim(1, 1), 5);
    }
}

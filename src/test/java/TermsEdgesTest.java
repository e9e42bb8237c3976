/** One test a sentence of the document's 'Terms' that names an edge: the least, the most, empty, full, around. */
public final class TermsEdgesTest {
    private static final int BAD = SnoopingBus.BAD;
    private static final int BUSY = SnoopingBus.BUSY;
    private static final int FULL = SnoopingBus.FULL;
    private static final int NOT = SnoopingBus.NOT;
    private static final int NONE = SnoopingBus.NONE;
    private static final int MIN = Integer.MIN_VALUE;
    private static final int MAX = Integer.MAX_VALUE;

    public static void main(String[] args) {
        sizes();
        cores();
        using();
        doing();
        serving();
        constants();
        Due.close();
    }

    private static void sizes() {
        Due.holds("An object is used for at most 512 calls after it has been made", TermsEdgesTest::lastCalls);
        Due.holds("There are C CORES 0 .. C - 1, C from 2 to 4.", TermsEdgesTest::coresOfEachSize);
        Due.holds("MEMORY has 32 WORDS (ints, 0 at first)", TermsEdgesTest::memoryAtFirst);
        Due.holds("at the ADDRESSES 0 .. 31", TermsEdgesTest::everyAddress);
        Due.holds("LINE l, 0 .. 7, is the words 4 l .. 4 l + 3.", TermsEdgesTest::wordsOfLines);
        Due.holds("The CACHE of a core has 2 SETS, of WAYS places each, 1 to 3", TermsEdgesTest::placesOfSets);
        Due.holds("line l can be in set l % 2", TermsEdgesTest::setsOfLines);
        Due.holds("all are invalid at first", TermsEdgesTest::invalidAtFirst);
        Due.holds("A line is in one place of a cache at most.", TermsEdgesTest::onePlace);
    }

    private static void cores() {
        Due.holds("A core has a BUFFER of at most 4 stores (an address and a word), the oldest first", TermsEdgesTest::fourStores);
        Due.holds("the oldest first", TermsEdgesTest::bufferGoesAround);
        Due.holds("and at most one REQUEST; a core with a request WAITS.", TermsEdgesTest::oneRequest);
        Due.holds("THE LAST word of a core is 0 at first.", TermsEdgesTest::lastAtFirst);
    }

    private static void using() {
        Due.holds("To USE a line in a cache makes it the one used last.", TermsEdgesTest::usedLast);
        Due.holds("TO FILL a line into a cache: if a place of its set holds none, the first of these", TermsEdgesTest::fillFreePlace);
        Due.holds("else that of the line used longest ago, which leaves it", TermsEdgesTest::fillFullSet);
        Due.holds("and, if it was modified, is WRITTEN BACK: its words become memory's.", TermsEdgesTest::leavingWrittenBack);
        Due.holds("Then the copy is memory's words, and the line is used.", TermsEdgesTest::filledFromMemory);
        Due.holds("TO PUT a word (the line is exclusive or modified): the copy's word at the address is that; the state is modified; the line is used.",
                TermsEdgesTest::putWords);
    }

    private static void doing() {
        Due.holds("if a store to a is in the buffer, the last word is that of the newest one.", TermsEdgesTest::loadNewest);
        Due.holds("Else, if the line is in the cache, the last word is the copy's, and the line is used. Else the core has the request READ a.",
                TermsEdgesTest::loadInEachState);
        Due.holds("DRAIN: the oldest store (a, w) of the buffer: if the line is exclusive or modified, w is put, and the store leaves the buffer; else the core has the request OWN a.",
                TermsEdgesTest::drainInEachState);
        Due.holds("SWAP a, w (the buffer has to be empty)", TermsEdgesTest::swapWithStores);
        Due.holds("if the line is exclusive or modified, the last word is the copy's, and w is put; else the core has the request TRADE a, w.",
                TermsEdgesTest::swapInEachState);
        Due.holds("ADD a, w likewise", TermsEdgesTest::addWithStores);
        Due.holds("with the sum of the copy's word and w (wrapping) in place of w, and the request RAISE a, w.", TermsEdgesTest::addInEachState);
        Due.holds("(wrapping)", TermsEdgesTest::sumsWrap);
    }

    private static void serving() {
        Due.holds("THE BUS serves the request of a core, which waits no more then.", TermsEdgesTest::waitsNoMore);
        Due.holds("READ a: every other core that has the line: if it is modified there, it is written back; it is shared there then (not used).",
                TermsEdgesTest::readFromEachState);
        Due.holds("(not used)", TermsEdgesTest::sharedNotUsed);
        Due.holds("The line is filled in; its state is shared if another core has it, else exclusive; the last word is the copy's.",
                TermsEdgesTest::sharedByHowMany);
        Due.holds("The other requests: every other core that has the line: if it is modified there, it is written back; it is invalid there then.",
                TermsEdgesTest::takenFromEachState);
        Due.holds("If the core itself has the line (shared), it is modified now and used, an UPGRADE; otherwise it is filled in, and modified.",
                TermsEdgesTest::upgradeOrFill);
        Due.holds("Then, for OWN, as DRAIN does; for TRADE as SWAP, for RAISE as ADD.", TermsEdgesTest::changesOfEachRequest);
        Due.holds("of the cores with requests the first one from the core behind the one that it served last on (core 0 at first), around.",
                TermsEdgesTest::turnsGoAround);
        Due.holds("(core 0 at first)", TermsEdgesTest::firstTurn);
        Due.holds("THE WORD SEEN at an address is that of the copy in any cache where the line is modified, else memory's.",
                TermsEdgesTest::seenInEachState);
    }

    private static void constants() {
        Due.holds("`BUSY = -2`: The core waits.", () -> {
            SnoopingBus x = new SnoopingBus(2, 1);
            x.load(0, 0);
            Due.is("load of a waiting core", x.load(0, 0), -2);
        });
        Due.holds("`FULL = -3`: The buffer has no room.", () -> {
            SnoopingBus x = new SnoopingBus(2, 1);
            Steps.stores(x, 0, 0, 4);
            Due.is("store into a full buffer", x.store(0, 0, 5), -3);
        });
        Due.holds("`NOT = -4`: The buffer has nothing, or, where it has to be empty, something.", () -> {
            SnoopingBus x = new SnoopingBus(2, 1);
            Due.is("drain of nothing", x.drain(0), -4);
            Steps.stores(x, 0, 0, 1);
            Due.is("swap with something", x.swap(0, 0, 1), -4);
            Due.is("add with something", x.add(0, 0, 1), -4);
        });
        Due.holds("`NONE = -5`: Nobody waits.", () -> Due.is("bus()", new SnoopingBus(2, 1).bus(), -5));
        Due.holds("public static final int BAD = -1;", () -> Due.is("load of no core", new SnoopingBus(2, 1).load(2, 0), -1));
    }

    private static void lastCalls() {
        SnoopingBus served = new SnoopingBus(2, 1);
        for (int i = 0; i < 255; i++) {
            Steps.fetch(served, 0, i % 2 == 0 ? 0 : 8);
        }
        Due.is("the 511th call: count(0)", served.count(0), 255);
        Due.is("the 512th call: victim(0, 0)", served.victim(0, 0), 0);
        for (int loads = 0; loads <= 507; loads++) {
            usedSoOften(loads);
        }
        SnoopingBus stored = new SnoopingBus(2, 1);
        Steps.own(stored, 0, 0, 0);
        for (int i = 1; i <= 254; i++) {
            Due.is("one more store", stored.store(0, 0, i), 1);
            Due.is("one more drain", stored.drain(0), 0);
        }
        Due.is("the 511th call: seen(0)", stored.seen(0), 254);
        Due.is("the 512th call: drain(0)", stored.drain(0), NOT);
    }

    /** Asked once, so that an object is loaded from up to the last call but one. */
    private static void usedSoOften(int loads) {
        SnoopingBus x = new SnoopingBus(2, 2);
        Steps.fetch(x, 0, 0);
        Steps.fetch(x, 0, 8);
        for (int i = 0; i < loads; i++) {
            Due.is("one more load", x.load(0, i % 2 == 0 ? 0 : 8), 0);
        }
        Due.is("call " + (loads + 5) + ": victim(0, 0)", x.victim(0, 0), loads % 2 == 0 ? 0 : 2);
    }

    private static void coresOfEachSize() {
        for (int size = 2; size <= 4; size++) {
            SnoopingBus x = new SnoopingBus(size, 1);
            for (int core = -1; core <= 5; core++) {
                boolean there = core >= 0 && core < size;
                Due.is("of " + size + " load(" + core + ", 0)", x.load(core, 0), there ? 1 : BAD);
            }
            for (int core = 0; core < size; core++) {
                Due.is("of " + size + " bus()", x.bus(), core);
            }
            Due.is("of " + size + " bus()", x.bus(), NONE);
        }
    }

    private static void memoryAtFirst() {
        SnoopingBus x = new SnoopingBus(2, 1);
        for (int address = 0; address < 32; address++) {
            Due.is("memory(" + address + ")", x.memory(address), 0);
            Due.is("seen(" + address + ")", x.seen(address), 0);
        }
        int[] words = {MIN, MAX, -1, 1};
        for (int i = 0; i < words.length; i++) {
            Steps.own(x, 0, 8 * i, words[i]);
            x.evict(0, 2 * i);
            Due.is("an int: memory(" + 8 * i + ")", x.memory(8 * i), words[i]);
        }
    }

    private static void everyAddress() {
        SnoopingBus x = new SnoopingBus(2, 1);
        for (int address = 0; address < 32; address++) {
            int waits = address % 4 == 0 ? 1 : 0;
            Due.is("swap(0, " + address + ")", x.swap(0, address, 100 + address), waits);
            Due.is("bus()", x.bus(), waits == 1 ? 0 : NONE);
        }
        x.evict(0, 6);
        x.evict(0, 7);
        for (int address = 0; address < 32; address++) {
            Due.is("memory(" + address + ")", x.memory(address), 100 + address);
        }
        Due.is("load(0, -1)", x.load(0, -1), BAD);
        Due.is("load(0, 32)", x.load(0, 32), BAD);
    }

    private static void wordsOfLines() {
        for (int line = 0; line < 8; line++) {
            int first = 4 * line;
            for (int come = first; come < first + 4; come++) {
                SnoopingBus x = new SnoopingBus(2, 3);
                Steps.fetch(x, 0, come);
                Due.is("of line " + line + " load(first)", x.load(0, first), 0);
                Due.is("of line " + line + " load(last)", x.load(0, first + 3), 0);
                Due.is("of line " + line + " state", x.state(0, line), 2);
                Due.is("before line " + line, x.load(0, first - 1), line == 0 ? BAD : 1);
                Due.is("before line " + line + " bus()", x.bus(), line == 0 ? NONE : 0);
                Due.is("behind line " + line, x.load(0, first + 4), line == 7 ? BAD : 1);
            }
        }
        Due.is("line -1", new SnoopingBus(2, 1).state(0, -1), BAD);
        Due.is("line 8", new SnoopingBus(2, 1).state(0, 8), BAD);
    }

    private static void placesOfSets() {
        for (int ways = 1; ways <= 3; ways++) {
            SnoopingBus x = new SnoopingBus(2, ways);
            for (int line = 0; line < 8; line++) {
                Steps.fetch(x, 1, 4 * line);
            }
            for (int line = 0; line < 8; line++) {
                boolean stays = line / 2 >= 4 - ways;
                Due.is("ways " + ways + " state(1, " + line + ")", x.state(1, line), stays ? 2 : 0);
            }
            Due.is("ways " + ways + " victim(1, 0)", x.victim(1, 0), 2 * (4 - ways));
            Due.is("ways " + ways + " victim(1, 1)", x.victim(1, 1), 2 * (4 - ways) + 1);
            Due.is("ways " + ways + " set 2", x.victim(1, 2), BAD);
            Due.is("ways " + ways + " another core's are its own", x.victim(0, 0), BAD);
        }
    }

    private static void setsOfLines() {
        for (int line = 0; line < 8; line++) {
            SnoopingBus x = new SnoopingBus(2, 1);
            Steps.fetch(x, 0, 4 * line + 3);
            Due.is("its set: victim of line " + line, x.victim(0, line % 2), line);
            Due.is("the other set of line " + line, x.victim(0, 1 - line % 2), BAD);
            int beside = line % 2 == 0 ? line + 1 : line - 1;
            Steps.fetch(x, 0, 4 * beside);
            Due.is("a line of the other set leaves line " + line, x.state(0, line), 2);
            Steps.fetch(x, 0, 4 * ((line + 2) % 8));
            Due.is("a line of its set takes the place of line " + line, x.state(0, line), 0);
        }
    }

    private static void invalidAtFirst() {
        SnoopingBus x = new SnoopingBus(4, 3);
        for (int core = 0; core < 4; core++) {
            for (int line = 0; line < 8; line++) {
                Due.is("state(" + core + ", " + line + ")", x.state(core, line), 0);
                Due.is("evict(" + core + ", " + line + ")", x.evict(core, line), 0);
            }
            Due.is("victim(" + core + ", 0)", x.victim(core, 0), BAD);
            Due.is("victim(" + core + ", 1)", x.victim(core, 1), BAD);
            Due.is("load(" + core + ", 0)", x.load(core, 0), 1);
        }
    }

    private static void onePlace() {
        SnoopingBus x = new SnoopingBus(2, 2);
        Steps.fetch(x, 0, 0);
        Steps.fetch(x, 1, 0);
        Steps.own(x, 0, 0, 7);
        Due.is("an upgrade takes no second place", x.victim(0, 0), BAD);
        Steps.own(x, 1, 0, 8);
        Steps.fetch(x, 0, 0);
        Due.is("nor does a line that comes back", x.victim(0, 0), BAD);
        Due.is("a load of it", x.load(0, 3), 0);
        Due.is("takes none either", x.victim(0, 0), BAD);
        Steps.fetch(x, 0, 8);
        Due.is("both places are taken now", x.victim(0, 0), 0);
        Due.is("it leaves", x.evict(0, 0), 1);
        Due.is("and is nowhere", x.state(0, 0), 0);
        Due.is("so a place is free", x.victim(0, 0), BAD);
    }

    private static void fourStores() {
        for (int core = 0; core < 4; core++) {
            SnoopingBus x = new SnoopingBus(4, 1);
            Steps.stores(x, core, 31, 4);
            Due.is("the fifth", x.store(core, 31, 5), FULL);
            Due.is("buffered", x.buffered(core), 4);
            Due.is("another core's buffer", x.store((core + 1) % 4, 31, 5), 1);
        }
    }

    private static void bufferGoesAround() {
        SnoopingBus x = new SnoopingBus(2, 1);
        Steps.own(x, 0, 0, 0);
        for (int next = 1; next <= 3; next++) {
            Due.is("store", x.store(0, next % 4, next), next);
        }
        // Three stay in the buffer while eleven pass through it: its ends go around more than twice.
        for (int next = 4; next <= 14; next++) {
            Due.is("store", x.store(0, next % 4, next), 4);
            Due.is("no room", x.store(0, 0, -1), FULL);
            Due.is("drain", x.drain(0), 0);
            Due.is("the oldest came out", x.copy(0, (next - 3) % 4), next - 3);
            Due.is("the newest did not", x.copy(0, next % 4), Math.max(0, next - 4));
        }
        for (int next = 12; next <= 14; next++) {
            Due.is("drain", x.drain(0), 0);
            Due.is("in their order", x.copy(0, next % 4), next);
        }
        Due.is("empty", x.drain(0), NOT);
    }

    private static void oneRequest() {
        for (int kind = 1; kind <= 4; kind++) {
            SnoopingBus x = new SnoopingBus(2, 1);
            int request = Requests.ask(x, 0, kind, 9);
            Due.is("kind " + kind + " load", x.load(0, 0), BUSY);
            Due.is("kind " + kind + " store", x.store(0, 0, 1), BUSY);
            Due.is("kind " + kind + " drain", x.drain(0), BUSY);
            Due.is("kind " + kind + " swap", x.swap(0, 0, 1), BUSY);
            Due.is("kind " + kind + " add", x.add(0, 0, 1), BUSY);
            Due.is("kind " + kind + " evict", x.evict(0, 0), BUSY);
            Due.is("kind " + kind + " stays the request", x.request(0), request);
            Due.is("kind " + kind + " another core does not wait", x.load(1, 0), 1);
            Due.is("kind " + kind + " bus()", x.bus(), 0);
            Due.is("kind " + kind + " bus()", x.bus(), 1);
            Due.is("kind " + kind + " it was one alone", x.bus(), NONE);
        }
    }

    private static void lastAtFirst() {
        SnoopingBus x = new SnoopingBus(4, 1);
        Steps.own(x, 0, 0, 5);
        x.load(0, 0);
        Due.is("core 0 has one", x.last(0), 5);
        for (int core = 1; core < 4; core++) {
            Due.is("last(" + core + ")", x.last(core), 0);
        }
    }

    private static void usedLast() {
        SnoopingBus x = new SnoopingBus(2, 3);
        Steps.fetch(x, 0, 0);
        Steps.fetch(x, 0, 8);
        Steps.fetch(x, 0, 16);
        int[] used = {0, 8, 16, 8, 0, 16, 16, 0, 8, 8};
        int[] longestAgo = {2, 4, 0, 0, 4, 2, 2, 2, 4, 4};
        for (int i = 0; i < used.length; i++) {
            Due.is("load(0, " + used[i] + ")", x.load(0, used[i]), 0);
            Due.is("victim after " + (i + 1) + " loads", x.victim(0, 0), longestAgo[i]);
        }
    }

    private static void fillFreePlace() {
        for (int gone = 0; gone < 3; gone++) {
            SnoopingBus x = new SnoopingBus(2, 3);
            for (int i = 0; i < 3; i++) {
                Steps.fetch(x, 0, 8 * i);
                Due.is("nothing leaves a set with room", x.state(0, 0), 2);
            }
            if (gone == 1) {
                Steps.own(x, 1, 8, 1);
            } else {
                x.evict(0, 2 * gone);
            }
            Steps.fetch(x, 0, 24);
            for (int i = 0; i < 4; i++) {
                Due.is("without line " + 2 * gone + " state(0, " + 2 * i + ")", x.state(0, 2 * i), i == gone ? 0 : 2);
            }
        }
    }

    private static void fillFullSet() {
        for (int ways = 1; ways <= 3; ways++) {
            SnoopingBus x = new SnoopingBus(2, ways);
            for (int i = 0; i < ways; i++) {
                Steps.fetch(x, 0, 4 + 8 * i);
            }
            // Used again, the first one is no longer the one used longest ago (unless it is alone).
            x.load(0, 4);
            int leaving = ways == 1 ? 1 : 3;
            Due.is("ways " + ways + " victim", x.victim(0, 1), leaving);
            Steps.fetch(x, 0, 28);
            for (int i = 0; i < ways; i++) {
                int line = 1 + 2 * i;
                Due.is("ways " + ways + " state(0, " + line + ")", x.state(0, line), line == leaving ? 0 : 2);
            }
            Due.is("ways " + ways + " state(0, 7)", x.state(0, 7), 2);
        }
    }

    private static void leavingWrittenBack() {
        for (int state = 1; state <= 3; state++) {
            SnoopingBus x = Steps.inState(state);
            int before = x.count(1);
            Steps.fetch(x, 0, 4);
            Steps.fetch(x, 0, 20);
            Due.is("it left in state " + state, x.state(0, Steps.LINE), 0);
            Due.is("written back in state " + state, x.count(1) - before, state == 3 ? 1 : 0);
            Due.is("memory(12) in state " + state, x.memory(12), state == 3 ? 1 : 0);
            Due.is("memory(13) in state " + state, x.memory(13), Steps.WORD);
        }
        SnoopingBus x = new SnoopingBus(2, 1);
        Steps.own(x, 0, 8, 1);
        for (int i = 1; i < 4; i++) {
            x.swap(0, 8 + i, 1 + i);
        }
        Steps.own(x, 0, 0, 9);
        int[] due = {0, 1, 2, 3, 4, 0};
        for (int i = 0; i < due.length; i++) {
            Due.is("its words and no others: memory(" + (7 + i) + ")", x.memory(7 + i), due[i]);
        }
        Due.is("the line that came is not written back", x.memory(0), 0);
    }

    private static void filledFromMemory() {
        SnoopingBus x = new SnoopingBus(2, 2);
        Steps.own(x, 0, 0, 1);
        Steps.fetch(x, 0, 8);
        Steps.own(x, 1, 0, 2);
        x.swap(1, 3, 3);
        Steps.fetch(x, 0, 1);
        int[] due = {2, 0, 0, 3};
        for (int address = 0; address < 4; address++) {
            Due.is("not the words of before: copy(0, " + address + ")", x.copy(0, address), due[address]);
        }
        Due.is("used by the fill", x.victim(0, 0), 2);
        Steps.own(x, 0, 16, 4);
        Due.is("used by the fill for a trade", x.victim(0, 0), 0);
    }

    private static void putWords() {
        for (int state = 2; state <= 3; state++) {
            for (int address = 12; address <= 15; address++) {
                SnoopingBus x = Steps.inState(state);
                Steps.fetch(x, 0, 4);
                int[] words = {x.copy(0, 12), x.copy(0, 13), x.copy(0, 14), x.copy(0, 15)};
                words[address - 12] = MIN;
                Due.is("swap in state " + state, x.swap(0, address, MIN), 0);
                for (int i = 0; i < 4; i++) {
                    Due.is("put at " + address + " copy(0, " + (12 + i) + ")", x.copy(0, 12 + i), words[i]);
                }
                Due.is("modified", x.state(0, Steps.LINE), 3);
                Due.is("used", x.victim(0, 1), 1);
            }
        }
    }

    private static void loadNewest() {
        for (int many = 1; many <= 4; many++) {
            SnoopingBus x = new SnoopingBus(2, 1);
            Steps.own(x, 0, 5, 50);
            Steps.stores(x, 0, 5, many);
            Due.is("of " + many + " load", x.load(0, 5), 0);
            Due.is("of " + many + " the newest", x.last(0), many);
        }
        SnoopingBus x = new SnoopingBus(2, 1);
        Steps.own(x, 0, 5, 50);
        int[] addresses = {5, 6, 5, 4};
        for (int i = 0; i < 4; i++) {
            x.store(0, addresses[i], 10 + i);
        }
        for (int drained = 0; drained <= 4; drained++) {
            Due.is("after " + drained + " drains load", x.load(0, 5), 0);
            Due.is("after " + drained + " drains last", x.last(0), 12);
            x.drain(0);
        }
        Due.is("a store that left the buffer does not count", x.swap(0, 5, 99), 0);
        Due.is("load", x.load(0, 5), 0);
        Due.is("last", x.last(0), 99);
    }

    private static void loadInEachState() {
        for (int state = 0; state <= 3; state++) {
            SnoopingBus x = Steps.inState(state);
            Due.is("in state " + state + " load", x.load(0, Steps.ADDRESS), state == 0 ? 1 : 0);
            Due.is("in state " + state + " request", x.request(0), state == 0 ? 1 + 8 * Steps.ADDRESS : 0);
            Due.is("in state " + state + " last", x.last(0), state == 0 ? 0 : Steps.WORD);
            Due.is("in state " + state + " state", x.state(0, Steps.LINE), state);
        }
        for (int state = 1; state <= 3; state++) {
            SnoopingBus x = Steps.inState(state);
            Steps.fetch(x, 0, 4);
            Due.is("older in state " + state, x.victim(0, 1), Steps.LINE);
            Due.is("load in state " + state, x.load(0, Steps.ADDRESS), 0);
            Due.is("used in state " + state, x.victim(0, 1), 1);
        }
    }

    private static void drainInEachState() {
        for (int state = 0; state <= 3; state++) {
            SnoopingBus x = Steps.inState(state);
            boolean had = state >= 2;
            x.store(0, Steps.ADDRESS, 7);
            x.store(0, 0, 8);
            Due.is("in state " + state + " drain", x.drain(0), had ? 0 : 1);
            Due.is("in state " + state + " request", x.request(0), had ? 0 : 2 + 8 * Steps.ADDRESS);
            Due.is("in state " + state + " buffered", x.buffered(0), had ? 1 : 2);
            Due.is("in state " + state + " state", x.state(0, Steps.LINE), had ? 3 : state);
            Due.is("in state " + state + " seen", x.seen(Steps.ADDRESS), had ? 7 : Steps.WORD);
        }
        SnoopingBus x = new SnoopingBus(2, 1);
        Steps.own(x, 0, 0, 1);
        x.store(0, 8, 2);
        x.store(0, 0, 3);
        Due.is("the oldest, though the next one's line is had", x.drain(0), 1);
        Due.is("its request", x.request(0), 2 + 8 * 8);
    }

    private static void swapInEachState() {
        for (int state = 0; state <= 3; state++) {
            SnoopingBus x = Steps.inState(state);
            boolean had = state >= 2;
            int before = x.last(0);
            Due.is("in state " + state + " swap", x.swap(0, Steps.ADDRESS, 7), had ? 0 : 1);
            Due.is("in state " + state + " request", x.request(0), had ? 0 : 3 + 8 * Steps.ADDRESS);
            Due.is("in state " + state + " last", x.last(0), had ? Steps.WORD : before);
            Due.is("in state " + state + " state", x.state(0, Steps.LINE), had ? 3 : state);
            Due.is("in state " + state + " seen", x.seen(Steps.ADDRESS), had ? 7 : Steps.WORD);
        }
    }

    private static void swapWithStores() {
        for (int many = 0; many <= 4; many++) {
            SnoopingBus x = Steps.inState(3);
            Steps.stores(x, 0, 0, many);
            Due.is("with " + many + " stores", x.swap(0, Steps.ADDRESS, 7), many == 0 ? 0 : NOT);
            Due.is("another core's buffer may have some", x.swap(1, 0, 1), 1);
        }
    }

    private static void addWithStores() {
        for (int many = 0; many <= 4; many++) {
            SnoopingBus x = Steps.inState(3);
            Steps.stores(x, 0, 0, many);
            Due.is("with " + many + " stores", x.add(0, Steps.ADDRESS, 7), many == 0 ? 0 : NOT);
            Due.is("another core's buffer may have some", x.add(1, 0, 1), 1);
        }
    }

    private static void addInEachState() {
        for (int state = 0; state <= 3; state++) {
            SnoopingBus x = Steps.inState(state);
            boolean had = state >= 2;
            int before = x.last(0);
            Due.is("in state " + state + " add", x.add(0, Steps.ADDRESS, 7), had ? 0 : 1);
            Due.is("in state " + state + " request", x.request(0), had ? 0 : 4 + 8 * Steps.ADDRESS);
            Due.is("in state " + state + " last", x.last(0), had ? Steps.WORD : before);
            Due.is("in state " + state + " state", x.state(0, Steps.LINE), had ? 3 : state);
            Due.is("in state " + state + " seen", x.seen(Steps.ADDRESS), had ? Steps.WORD + 7 : Steps.WORD);
        }
    }

    private static void sumsWrap() {
        int[] words = {MAX, MIN, MAX, MIN, MAX, MIN, -1, 0};
        int[] added = {1, -1, MAX, MIN, MIN, MAX, 1, 0};
        int[] due = {MIN, MAX, -2, 0, -1, -1, 0, 0};
        for (int i = 0; i < words.length; i++) {
            SnoopingBus x = new SnoopingBus(2, 1);
            Steps.own(x, 0, 0, words[i]);
            Due.is("at once", x.add(0, 0, added[i]), 0);
            Due.is("at once " + words[i] + " + " + added[i], x.seen(0), due[i]);
            Due.is("at once the word before", x.last(0), words[i]);
            SnoopingBus served = new SnoopingBus(2, 1);
            Steps.own(served, 0, 0, words[i]);
            Due.is("served", served.add(1, 0, added[i]), 1);
            served.bus();
            Due.is("served " + words[i] + " + " + added[i], served.seen(0), due[i]);
            Due.is("served the word before", served.last(1), words[i]);
        }
    }

    private static void waitsNoMore() {
        for (int kind = 1; kind <= 4; kind++) {
            SnoopingBus x = new SnoopingBus(3, 1);
            Requests.ask(x, 1, kind, 9);
            int other = Requests.ask(x, 2, kind, 17);
            Due.is("kind " + kind + " bus()", x.bus(), 1);
            Due.is("kind " + kind + " request", x.request(1), 0);
            Due.is("kind " + kind + " the other waits", x.request(2), other);
            Due.is("kind " + kind + " and is BUSY", x.load(2, 0), BUSY);
            Due.is("kind " + kind + " load", x.load(1, 9), 0);
            Due.is("kind " + kind + " bus() serves the other", x.bus(), 2);
            Due.is("kind " + kind + " bus() serves nobody twice", x.bus(), NONE);
        }
    }

    private static void readFromEachState() {
        for (int state = 0; state <= 3; state++) {
            SnoopingBus x = Steps.inState(state);
            if (state == 1) {
                x.evict(1, Steps.LINE);
            }
            int backs = x.count(1);
            Steps.fetch(x, 1, Steps.ADDRESS);
            Due.is("from state " + state + " there", x.state(0, Steps.LINE), state == 0 ? 0 : 1);
            Due.is("from state " + state + " here", x.state(1, Steps.LINE), state == 0 ? 2 : 1);
            Due.is("from state " + state + " written back", x.count(1) - backs, state == 3 ? 1 : 0);
            Due.is("from state " + state + " memory", x.memory(12), state == 3 ? 1 : 0);
            Due.is("from state " + state + " copy", x.copy(1, 12), state == 3 ? 1 : 0);
            Due.is("from state " + state + " last", x.last(1), Steps.WORD);
            Due.is("from state " + state + " invalid because of another", x.count(2), 0);
        }
    }

    private static void sharedNotUsed() {
        for (int state = 1; state <= 3; state++) {
            SnoopingBus x = Steps.inState(state);
            Steps.fetch(x, 0, 4);
            if (state == 1) {
                x.evict(1, Steps.LINE);
            }
            Steps.fetch(x, 1, Steps.ADDRESS);
            Due.is("from state " + state + " still the one used longest ago", x.victim(0, 1), Steps.LINE);
        }
    }

    private static void sharedByHowMany() {
        for (int others = 0; others <= 3; others++) {
            SnoopingBus x = new SnoopingBus(4, 1);
            for (int core = 0; core < others; core++) {
                Steps.fetch(x, core, 31);
            }
            Steps.fetch(x, 3, 28);
            Due.is("with " + others + " others state", x.state(3, 7), others == 0 ? 2 : 1);
            for (int core = 0; core < 3; core++) {
                Due.is("with " + others + " others state of " + core, x.state(core, 7), core < others ? 1 : 0);
            }
        }
        SnoopingBus x = new SnoopingBus(2, 1);
        Steps.own(x, 0, 31, 6);
        Steps.fetch(x, 0, 20);
        Steps.fetch(x, 1, 31);
        Due.is("the other one had it, but it left", x.state(1, 7), 2);
        Due.is("last", x.last(1), 6);
        SnoopingBus beside = new SnoopingBus(2, 1);
        Steps.fetch(beside, 0, 27);
        Steps.fetch(beside, 1, 28);
        Due.is("another line of another core", beside.state(1, 7), 2);
    }

    private static void takenFromEachState() {
        for (int state = 0; state <= 3; state++) {
            for (int kind = 2; kind <= 4; kind++) {
                SnoopingBus x = Steps.inState(state);
                if (state == 1) {
                    x.evict(1, Steps.LINE);
                }
                int backs = x.count(1);
                String told = "kind " + kind + " from state " + state;
                Requests.ask(x, 1, kind, Steps.ADDRESS);
                Due.is(told + " not yet", x.state(0, Steps.LINE), state);
                Due.is(told + " bus()", x.bus(), 1);
                Due.is(told + " there", x.state(0, Steps.LINE), 0);
                Due.is(told + " here", x.state(1, Steps.LINE), 3);
                Due.is(told + " written back", x.count(1) - backs, state == 3 ? 1 : 0);
                Due.is(told + " memory", x.memory(12), state == 3 ? 1 : 0);
                Due.is(told + " invalid because of another", x.count(2), state == 0 ? 0 : 1);
                Due.is(told + " no upgrade", x.count(3), 0);
            }
        }
    }

    private static void upgradeOrFill() {
        for (int kind = 2; kind <= 4; kind++) {
            SnoopingBus x = Steps.inState(1);
            Steps.fetch(x, 0, 4);
            int backs = x.count(1);
            String told = "kind " + kind;
            Requests.ask(x, 0, kind, Steps.ADDRESS);
            Due.is(told + " bus()", x.bus(), 0);
            Due.is(told + " upgrade", x.count(3), 1);
            Due.is(told + " modified", x.state(0, Steps.LINE), 3);
            Due.is(told + " used", x.victim(0, 1), 1);
            Due.is(told + " nothing left for it", x.state(0, 1), 2);
            Due.is(told + " nothing was written back", x.count(1), backs);
            SnoopingBus lost = Steps.inState(1);
            Requests.ask(lost, 0, kind, Steps.ADDRESS);
            Requests.ask(lost, 1, kind, Steps.ADDRESS);
            Due.is(told + " bus()", lost.bus(), 0);
            Due.is(told + " the other lost it while it waited", lost.state(1, Steps.LINE), 0);
            Due.is(told + " bus()", lost.bus(), 1);
            Due.is(told + " no second upgrade", lost.count(3), 1);
            Due.is(told + " filled in, modified", lost.state(1, Steps.LINE), 3);
        }
    }

    private static void changesOfEachRequest() {
        int[] seen = {0, Steps.WORD, Requests.WORD, Requests.WORD, Steps.WORD + Requests.WORD};
        for (int state = 0; state <= 1; state++) {
            for (int kind = 2; kind <= 4; kind++) {
                SnoopingBus x = Steps.inState(state);
                int last = x.last(0);
                String told = "kind " + kind + " from state " + state;
                Requests.ask(x, 0, kind, Steps.ADDRESS);
                Due.is(told + " nothing yet", x.seen(Steps.ADDRESS), Steps.WORD);
                Due.is(told + " buffered", x.buffered(0), kind == 2 ? 1 : 0);
                Due.is(told + " bus()", x.bus(), 0);
                Due.is(told + " seen", x.seen(Steps.ADDRESS), seen[kind]);
                Due.is(told + " last", x.last(0), kind == 2 ? last : Steps.WORD);
                Due.is(told + " buffered", x.buffered(0), 0);
            }
        }
        SnoopingBus x = new SnoopingBus(2, 1);
        Steps.stores(x, 0, 0, 4);
        x.drain(0);
        x.bus();
        Due.is("OWN drains the oldest", x.seen(0), 1);
        Due.is("and no other", x.buffered(0), 3);
    }

    private static void turnsGoAround() {
        for (int size = 2; size <= 4; size++) {
            for (int served = 0; served < size; served++) {
                SnoopingBus x = new SnoopingBus(size, 1);
                Steps.fetch(x, served, 0);
                for (int core = 0; core < size; core++) {
                    x.load(core, 8);
                }
                for (int step = 1; step <= size; step++) {
                    Due.is("of " + size + " behind " + served, x.bus(), (served + step) % size);
                }
                Due.is("of " + size + " nobody", x.bus(), NONE);
                x.load(served, 16);
                x.load((served + 1) % size, 16);
                Due.is("of " + size + " nobody's turn leaves it as it was", x.bus(), (served + 1) % size);
            }
        }
        SnoopingBus x = new SnoopingBus(4, 1);
        Steps.fetch(x, 3, 0);
        x.load(3, 8);
        Due.is("one that waits alone, all the way around", x.bus(), 3);
    }

    private static void firstTurn() {
        for (int size = 2; size <= 4; size++) {
            for (int first = 0; first < size; first++) {
                SnoopingBus x = new SnoopingBus(size, 1);
                Due.is("nobody yet", x.bus(), NONE);
                for (int core = size - 1; core >= first; core--) {
                    x.load(core, 0);
                }
                Due.is("of " + size + " from " + first + " on", x.bus(), first);
            }
        }
    }

    private static void seenInEachState() {
        for (int state = 0; state <= 3; state++) {
            SnoopingBus x = Steps.inState(state);
            x.store(0, Steps.ADDRESS, 9);
            Due.is("a buffered store is not seen in state " + state, x.seen(Steps.ADDRESS), Steps.WORD);
            Due.is("seen(12) in state " + state, x.seen(12), state == 3 ? 1 : 0);
            Due.is("memory(12) in state " + state, x.memory(12), 0);
        }
        for (int core = 0; core < 4; core++) {
            SnoopingBus x = new SnoopingBus(4, 1);
            Steps.own(x, core, 31, -core - 1);
            Due.is("modified in core " + core, x.seen(31), -core - 1);
            Due.is("its first word", x.seen(28), 0);
        }
    }
}

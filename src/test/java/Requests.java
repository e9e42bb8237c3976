/** Makes a core ask the bus for each kind of request. */
final class Requests {
    static final int READ = 1;
    static final int OWN = 2;
    static final int TRADE = 3;
    static final int RAISE = 4;

    /** The word that OWN, TRADE and RAISE come with. */
    static final int WORD = 7;

    private Requests() {
    }

    /** Makes a core with an empty buffer, which has not the line alone, ask; answers the request that is due. */
    static int ask(SnoopingBus x, int core, int kind, int address) {
        int answer;
        switch (kind) {
            case READ:
                answer = x.load(core, address);
                break;
            case OWN:
                Due.is("ask: store", x.store(core, address, WORD), 1);
                answer = x.drain(core);
                break;
            case TRADE:
                answer = x.swap(core, address, WORD);
                break;
            default:
                answer = x.add(core, address, WORD);
        }
        Due.is("ask: kind " + kind, answer, 1);
        Due.is("ask: request of kind " + kind, x.request(core), kind + 8 * address);
        return kind + 8 * address;
    }
}

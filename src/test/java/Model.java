import java.util.ArrayDeque;
import java.util.ArrayList;
import java.util.Deque;
import java.util.Iterator;
import java.util.List;

/**
 * The document's words written down a second time, in another way: a set is a list of the lines
 * in the order of their use. ModelTest holds SnoopingBus against it.
 */
final class Model {
    private static final class Held {
        final int line;
        final int[] copy;
        int state;

        Held(int line, int[] copy, int state) {
            this.line = line;
            this.copy = copy;
            this.state = state;
        }
    }

    private static final class Unit {
        final List<List<Held>> sets = List.of(new ArrayList<>(), new ArrayList<>());
        final Deque<int[]> buffer = new ArrayDeque<>();
        int[] request = null;
        int last = 0;

        Held find(int line) {
            for (Held held : sets.get(line % 2)) {
                if (held.line == line) {
                    return held;
                }
            }
            return null;
        }

        boolean hasAlone(int address) {
            Held held = find(address / 4);
            return held != null && held.state >= 2;
        }

        Held used(int line) {
            Held held = find(line);
            sets.get(line % 2).remove(held);
            sets.get(line % 2).add(held);
            return held;
        }

        void put(int address, int word) {
            Held held = used(address / 4);
            held.copy[address % 4] = word;
            held.state = 3;
        }
    }

    private final int[] memory = new int[32];
    private final int[] counts = new int[4];
    private final List<Unit> units = new ArrayList<>();
    private final int ways;
    private int turn = 0;

    Model(int cores, int ways) {
        int size = cores < 2 ? 2 : cores > 4 ? 4 : cores;
        for (int i = 0; i < size; i++) {
            units.add(new Unit());
        }
        this.ways = ways < 1 ? 1 : ways > 3 ? 3 : ways;
    }

    int load(int core, int address) {
        if (noCore(core) || noAddress(address)) return -1;
        Unit unit = units.get(core);
        if (unit.request != null) return -2;
        for (Iterator<int[]> it = unit.buffer.descendingIterator(); it.hasNext();) {
            int[] store = it.next();
            if (store[0] == address) {
                unit.last = store[1];
                return 0;
            }
        }
        if (unit.find(address / 4) != null) {
            unit.last = unit.used(address / 4).copy[address % 4];
            return 0;
        }
        unit.request = new int[] {1, address, 0};
        return 1;
    }

    int store(int core, int address, int word) {
        if (noCore(core) || noAddress(address)) return -1;
        Unit unit = units.get(core);
        if (unit.request != null) return -2;
        if (unit.buffer.size() == 4) return -3;
        unit.buffer.addLast(new int[] {address, word});
        return unit.buffer.size();
    }

    int drain(int core) {
        if (noCore(core)) return -1;
        Unit unit = units.get(core);
        if (unit.request != null) return -2;
        if (unit.buffer.isEmpty()) return -4;
        if (unit.hasAlone(unit.buffer.peekFirst()[0])) {
            drainNow(unit);
            return 0;
        }
        unit.request = new int[] {2, unit.buffer.peekFirst()[0], 0};
        return 1;
    }

    int swap(int core, int address, int word) {
        if (noCore(core) || noAddress(address)) return -1;
        Unit unit = units.get(core);
        if (unit.request != null) return -2;
        if (!unit.buffer.isEmpty()) return -4;
        if (unit.hasAlone(address)) {
            swapNow(unit, address, word);
            return 0;
        }
        unit.request = new int[] {3, address, word};
        return 1;
    }

    int add(int core, int address, int word) {
        if (noCore(core) || noAddress(address)) return -1;
        Unit unit = units.get(core);
        if (unit.request != null) return -2;
        if (!unit.buffer.isEmpty()) return -4;
        if (unit.hasAlone(address)) {
            addNow(unit, address, word);
            return 0;
        }
        unit.request = new int[] {4, address, word};
        return 1;
    }

    int bus() {
        for (int i = 0; i < units.size(); i++) {
            int core = (turn + i) % units.size();
            if (units.get(core).request != null) {
                turn = core + 1;
                counts[0]++;
                serve(units.get(core));
                return core;
            }
        }
        return -5;
    }

    int evict(int core, int line) {
        if (noCore(core) || line < 0 || line > 7) return -1;
        Unit unit = units.get(core);
        if (unit.request != null) return -2;
        Held held = unit.find(line);
        if (held == null) return 0;
        int before = held.state;
        writeBack(held);
        unit.sets.get(line % 2).remove(held);
        return before;
    }

    int last(int core) {
        return noCore(core) ? 0 : units.get(core).last;
    }

    int request(int core) {
        if (noCore(core)) return -1;
        int[] request = units.get(core).request;
        return request == null ? 0 : request[0] + 8 * request[1];
    }

    int buffered(int core) {
        return noCore(core) ? -1 : units.get(core).buffer.size();
    }

    int state(int core, int line) {
        if (noCore(core) || line < 0 || line > 7) return -1;
        Held held = units.get(core).find(line);
        return held == null ? 0 : held.state;
    }

    int copy(int core, int address) {
        if (noCore(core) || noAddress(address)) return 0;
        Held held = units.get(core).find(address / 4);
        return held == null ? 0 : held.copy[address % 4];
    }

    int memory(int address) {
        return noAddress(address) ? 0 : memory[address];
    }

    int seen(int address) {
        if (noAddress(address)) return 0;
        for (Unit unit : units) {
            Held held = unit.find(address / 4);
            if (held != null && held.state == 3) return held.copy[address % 4];
        }
        return memory[address];
    }

    int count(int what) {
        return what < 0 || what > 3 ? -1 : counts[what];
    }

    int victim(int core, int set) {
        if (noCore(core) || set < 0 || set > 1) return -1;
        List<Held> lines = units.get(core).sets.get(set);
        return lines.size() < ways ? -1 : lines.get(0).line;
    }

    private boolean noCore(int core) {
        return core < 0 || core >= units.size();
    }

    private static boolean noAddress(int address) {
        return address < 0 || address > 31;
    }

    private void writeBack(Held held) {
        if (held.state == 3) {
            System.arraycopy(held.copy, 0, memory, 4 * held.line, 4);
            counts[1]++;
        }
    }

    private void fill(Unit unit, int line, int state) {
        List<Held> lines = unit.sets.get(line % 2);
        if (lines.size() == ways) {
            writeBack(lines.remove(0));
        }
        int[] words = new int[4];
        System.arraycopy(memory, 4 * line, words, 0, 4);
        lines.add(new Held(line, words, state));
    }

    private void serve(Unit unit) {
        int[] request = unit.request;
        unit.request = null;
        int line = request[1] / 4;
        boolean elsewhere = false;
        for (Unit other : units) {
            Held held = other.find(line);
            if (other == unit || held == null) continue;
            elsewhere = true;
            writeBack(held);
            if (request[0] == 1) {
                held.state = 1;
            } else {
                other.sets.get(line % 2).remove(held);
                counts[2]++;
            }
        }
        if (request[0] == 1) {
            fill(unit, line, elsewhere ? 1 : 2);
            unit.last = unit.find(line).copy[request[1] % 4];
            return;
        }
        if (unit.find(line) != null) {
            unit.used(line).state = 3;
            counts[3]++;
        } else {
            fill(unit, line, 3);
        }
        if (request[0] == 2) drainNow(unit);
        if (request[0] == 3) swapNow(unit, request[1], request[2]);
        if (request[0] == 4) addNow(unit, request[1], request[2]);
    }

    private static void drainNow(Unit unit) {
        int[] store = unit.buffer.removeFirst();
        unit.put(store[0], store[1]);
    }

    private static void swapNow(Unit unit, int address, int word) {
        unit.last = unit.find(address / 4).copy[address % 4];
        unit.put(address, word);
    }

    private static void addNow(Unit unit, int address, int word) {
        swapNow(unit, address, unit.find(address / 4).copy[address % 4] + word);
    }
}

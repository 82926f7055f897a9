import java.math.BigInteger;
import java.util.ArrayList;
import java.util.HashMap;
import java.util.HashSet;
import java.util.List;
import java.util.Map;
import java.util.Set;
import java.util.TreeMap;

/**
 * The document written a second time, sentence by sentence, with sets and maps and without a
 * thought for room or speed, so that a slip in the class is not likely to stand here too.
 */
final class PlainHouse {
    private static final BigInteger TWO64 = BigInteger.ONE.shiftLeft(64);
    private static final BigInteger FACTOR = new BigInteger("6364136223846793005");
    private static final BigInteger ADDEND = new BigInteger("1442695040888963407");

    private static final class Entry {
        final char kind;
        final int unit;
        final int second;
        final int target;
        final long value;
        boolean thrown = false;

        Entry(char kind, int unit, int second, int target, long value) {
            this.kind = kind;
            this.unit = unit;
            this.second = second;
            this.target = target;
            this.value = value;
        }
    }

    private final int units;
    private final List<Entry> entries = new ArrayList<>();
    private final Map<Integer, Integer> own = new HashMap<>();
    private final Set<Integer> waiting = new HashSet<>();
    private final Map<Integer, Integer> heldIn = new HashMap<>();
    private final Map<Integer, Long> safe = new HashMap<>();
    private final Set<List<Integer>> bars = new HashSet<>();
    private final List<int[]> turns = new ArrayList<>();
    private final List<Map<Integer, Long>> pastOutputs = new ArrayList<>();
    private final List<Map<Integer, Integer>> pastOwners = new ArrayList<>();
    private Map<Integer, Long> outputs = new HashMap<>();
    private Map<Integer, Integer> owners = new HashMap<>();
    private boolean closed = false;

    PlainHouse(int told) {
        units = told < 1 ? 1 : told > 8 ? 8 : told;
        for (int u = 0; u < units; u++) {
            own.put(u, 0);
        }
    }

    private boolean entryRefused(int unit, int second) {
        return !own.containsKey(unit) || second < 0 || second > 200 || closed
                || second < own.get(unit) || entries.size() == 300;
    }

    boolean step(int unit, int second, int output, long v) {
        if (entryRefused(unit, second) || output < 4 * unit || output > 4 * unit + 3) {
            return false;
        }
        return entries.add(new Entry('s', unit, second, output, v));
    }

    boolean asks(int unit, int second, int way) {
        if (entryRefused(unit, second) || way < 0 || way > 15) {
            return false;
        }
        for (Entry e : entries) {
            if (e.kind == 'a' && e.unit == unit && e.second == second && e.target == way) {
                return false;
            }
        }
        return entries.add(new Entry('a', unit, second, way, 0));
    }

    private Entry throwOf(int unit, int second) {
        for (Entry e : entries) {
            if (e.kind == 't' && e.unit == unit && e.second == second && !e.thrown) {
                return e;
            }
        }
        return null;
    }

    boolean throwsAt(int unit, int second) {
        if (entryRefused(unit, second) || throwOf(unit, second) != null) {
            return false;
        }
        return entries.add(new Entry('t', unit, second, 0, 0));
    }

    boolean safe(int output, long v) {
        if (output < 0 || output >= 4 * units || closed) {
            return false;
        }
        safe.put(output, v);
        return true;
    }

    boolean bar(int way, int second) {
        if (way < 0 || way > 15 || second < 0 || second > 63 || closed
                || second < pastOutputs.size()) {
            return false;
        }
        return bars.add(List.of(way, second));
    }

    int play(long seed, int seconds) {
        if (seconds < 0 || seconds > 64 || closed) {
            return -1;
        }
        BigInteger g = BigInteger.valueOf(seed).mod(TWO64);
        for (int done = 0; done < seconds; done++) {
            List<Integer> acting = acting();
            if (acting.isEmpty() || pastOutputs.size() == 64) {
                return done;
            }
            List<Integer> order = new ArrayList<>();
            while (!acting.isEmpty()) {
                g = g.multiply(FACTOR).add(ADDEND).mod(TWO64);
                BigInteger n = BigInteger.valueOf(acting.size());
                order.add(acting.remove(g.shiftRight(33).mod(n).intValue()));
            }
            second(order);
        }
        return seconds;
    }

    private List<Integer> acting() {
        List<Integer> found = new ArrayList<>();
        for (int u = 0; u < units; u++) {
            if (state(u) == 0 || state(u) == 1) {
                found.add(u);
            }
        }
        return found;
    }

    private Set<Integer> ways(int unit, boolean gives) {
        Set<Integer> found = new HashSet<>();
        for (Entry e : entries) {
            if (e.kind != 'a' || e.unit != unit || e.second != own.get(unit)) {
                continue;
            }
            int lesser = 0;
            for (Entry f : entries) {
                if (f.kind == 'a' && f.unit == unit && f.target == e.target && f.second < e.second) {
                    lesser++;
                }
            }
            if (lesser % 2 == 1 == gives) {
                found.add(e.target);
            }
        }
        return found;
    }

    private void second(List<Integer> order) {
        int now = pastOutputs.size();
        Map<Integer, Integer> came = new HashMap<>();
        Map<Integer, Set<Integer>> asked = new TreeMap<>();
        for (int u : order) {
            Entry t = throwOf(u, own.get(u));
            if (t != null) {
                t.thrown = true;
                came.put(u, 2);
            } else {
                Set<Integer> wanted = ways(u, false);
                wanted.removeIf(way -> owners.getOrDefault(way, -1) == u);
                asked.put(u, wanted);
            }
        }
        for (int u : came.keySet()) {
            heldIn.put(u, now);
            waiting.remove(u);
            for (int k = 4 * u; k < 4 * u + 4; k++) {
                outputs.put(k, safe.getOrDefault(k, 0L));
            }
        }
        for (int way = 0; way < 16; way++) {
            for (int u : asked.keySet()) {
                if (asked.get(u).contains(way) && !bars.contains(List.of(way, now))) {
                    owners.putIfAbsent(way, u);
                }
            }
        }
        for (int u : asked.keySet()) {
            came.put(u, endOfTurn(u));
        }
        for (int u : order) {
            turns.add(new int[] {now, u, came.get(u)});
        }
        pastOutputs.add(new HashMap<>(outputs));
        pastOwners.add(new HashMap<>(owners));
    }

    private int endOfTurn(int u) {
        for (int way : ways(u, false)) {
            if (owners.getOrDefault(way, -1) != u) {
                waiting.add(u);
                return 1;
            }
        }
        for (Entry e : entries) {
            if (e.kind == 's' && e.unit == u && e.second == own.get(u)) {
                outputs.put(e.target, e.value);
            }
        }
        for (int way : ways(u, true)) {
            if (owners.remove(way) != u) {
                throw new IllegalStateException("a way given back by one who does not own it");
            }
        }
        waiting.remove(u);
        own.merge(u, 1, Integer::sum);
        return 0;
    }

    long output(int k, int second) {
        if (second == -1) {
            return outputs.getOrDefault(k, 0L);
        }
        return second < 0 || second >= pastOutputs.size() ? 0L
                : pastOutputs.get(second).getOrDefault(k, 0L);
    }

    int owner(int way, int second) {
        if (second == -1) {
            return owners.getOrDefault(way, -1);
        }
        return second < 0 || second >= pastOwners.size() ? -1
                : pastOwners.get(second).getOrDefault(way, -1);
    }

    int state(int unit) {
        if (!own.containsKey(unit)) {
            return -1;
        }
        if (closed) {
            return 4;
        }
        if (heldIn.containsKey(unit)) {
            return 2;
        }
        for (Entry e : entries) {
            if (e.unit == unit && e.second >= own.get(unit)) {
                return waiting.contains(unit) ? 1 : 0;
            }
        }
        return 3;
    }

    boolean restart(int unit) {
        return !closed && heldIn.remove(unit) != null;
    }

    int held(int unit) {
        return closed ? -1 : heldIn.getOrDefault(unit, -1);
    }

    int log(int k, int what) {
        return k < 0 || k >= turns.size() || what < 0 || what > 2 ? -1 : turns.get(k)[what];
    }

    int count(int what) {
        if (what == 0) {
            return pastOutputs.size();
        }
        if (what == 1) {
            return turns.size();
        }
        if (what == 2) {
            return entries.size();
        }
        return what == 3 ? acting().size() : own.getOrDefault(what - 4, -1);
    }

    int close() {
        if (closed) {
            return 0;
        }
        int stopped = 0;
        for (int u = 0; u < units; u++) {
            stopped += state(u) == 3 ? 0 : 1;
        }
        closed = true;
        outputs = new HashMap<>(safe);
        owners = new HashMap<>();
        return stopped;
    }
}

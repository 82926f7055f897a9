import java.util.Arrays;

/**
 * Controllers of units that act second by second and see of one another only what a second's end
 * brings. The document's fifteen promises are the public methods, in its order.
 */
public final class UnitThreads {
    public static final int NONE = -1;

    private static final int MOST_UNITS = 8;
    private static final int OUTPUTS_OF_A_UNIT = 4;
    private static final int WAYS = 16;
    private static final int LAST_OWN_SECOND = 200;
    private static final int MOST_ENTRIES = 300;
    private static final int MOST_SECONDS = 64;
    /** Told in place of a second of the house: how it is now. */
    private static final int NOW = -1;

    // How a unit is: the answers of state().
    private static final int ON = 0;
    private static final int WAITS = 1;
    private static final int HELD = 2;
    private static final int ENDED = 3;
    private static final int CLOSED = 4;

    // What came of a turn: the answers of log(k, 2).
    private static final int DONE = 0;
    private static final int WAITED = 1;
    private static final int THREW = 2;

    // What an entry is; a throw becomes THROWN so that it is never thrown a second time.
    private static final int STEP = 0;
    private static final int ASK = 1;
    private static final int THROW = 2;
    private static final int THROWN = 3;

    private final Unit[] crew;
    private final Entries entries;
    private final Order order;
    private final Turns turns;
    private final Board board;
    /** For each second of the house the ways that are barred in it, a bit for each. */
    private final int[] barred;
    private boolean closed;

    public UnitThreads(int units) {
        int size = Math.max(1, Math.min(MOST_UNITS, units));
        crew = new Unit[size];
        for (int u = 0; u < size; u++) {
            crew[u] = new Unit();
        }
        entries = new Entries();
        order = new Order(size);
        turns = new Turns(size);
        board = new Board(size);
        barred = new int[MOST_SECONDS];
        closed = false;
    }

    public boolean step(int unit, int second, int output, long v) {
        if (!takesEntry(unit, second) || !isOutputOf(unit, output)) {
            return false;
        }
        tell(STEP, unit, second, output, v);
        return true;
    }

    public boolean asks(int unit, int second, int way) {
        if (!takesEntry(unit, second) || !isWay(way)
                || entries.find(ASK, unit, second, way) != NONE) {
            return false;
        }
        tell(ASK, unit, second, way, 0L);
        return true;
    }

    public boolean throwsAt(int unit, int second) {
        if (!takesEntry(unit, second) || entries.find(THROW, unit, second, 0) != NONE) {
            return false;
        }
        tell(THROW, unit, second, 0, 0L);
        return true;
    }

    public boolean safe(int output, long v) {
        if (!board.hasOutput(output) || closed) {
            return false;
        }
        board.safeValues[output] = v;
        return true;
    }

    public boolean bar(int way, int second) {
        if (!isWay(way) || second < 0 || second >= MOST_SECONDS || closed) {
            return false;
        }
        if (second < board.seconds || hasWay(barred[second], way)) {
            return false;
        }
        barred[second] |= 1 << way;
        return true;
    }

    public int play(long seed, int seconds) {
        if (seconds < 0 || seconds > MOST_SECONDS || closed) {
            return NONE;
        }
        order.g = seed;
        int done = 0;
        while (done < seconds && board.seconds < MOST_SECONDS && acting() > 0) {
            passSecond();
            done++;
        }
        return done;
    }

    public long output(int k, int second) {
        return board.valueAt(k, second);
    }

    public int owner(int way, int second) {
        return board.ownerAt(way, second);
    }

    public int state(int unit) {
        return isUnit(unit) ? modeOf(unit) : NONE;
    }

    public boolean restart(int unit) {
        if (!isUnit(unit) || modeOf(unit) != HELD) {
            return false;
        }
        crew[unit].mode = ON;
        return true;
    }

    public int held(int unit) {
        return isUnit(unit) && modeOf(unit) == HELD ? crew[unit].heldIn : NONE;
    }

    public int log(int k, int what) {
        return turns.look(k, what);
    }

    public int count(int what) {
        switch (what) {
            case 0:
                return board.seconds;
            case 1:
                return turns.size;
            case 2:
                return entries.size;
            case 3:
                return acting();
            default:
                return isUnit(what - 4) ? crew[what - 4].ownSecond : NONE;
        }
    }

    public int close() {
        if (closed) {
            return 0;
        }
        int stopped = 0;
        for (int u = 0; u < crew.length; u++) {
            if (modeOf(u) != ENDED) {
                stopped++;
            }
        }
        board.shut();
        closed = true;
        return stopped;
    }

    private boolean isUnit(int unit) {
        return unit >= 0 && unit < crew.length;
    }

    private static boolean isWay(int way) {
        return way >= 0 && way < WAYS;
    }

    private static boolean isOutputOf(int unit, int output) {
        return output >= 0 && output / OUTPUTS_OF_A_UNIT == unit;
    }

    private static boolean hasWay(int ways, int way) {
        return (ways >> way & 1) != 0;
    }

    /** What refuses a step, an ask and a throw alike. */
    private boolean takesEntry(int unit, int second) {
        return isUnit(unit) && second >= 0 && second <= LAST_OWN_SECOND && !closed
                && second >= crew[unit].ownSecond && entries.size < MOST_ENTRIES;
    }

    private void tell(int kind, int unit, int second, int target, long v) {
        entries.add(kind, unit, second, target, v);
        crew[unit].lastEntry = Math.max(crew[unit].lastEntry, second);
    }

    private int modeOf(int unit) {
        if (closed) {
            return CLOSED;
        }
        return crew[unit].hasEnded() ? ENDED : crew[unit].mode;
    }

    /** How many units are on or wait. */
    private int acting() {
        int n = 0;
        for (int u = 0; u < crew.length; u++) {
            int mode = modeOf(u);
            if (mode == ON || mode == WAITS) {
                n++;
            }
        }
        return n;
    }

    private void passSecond() {
        int second = board.seconds;
        entries.brief(crew);
        order.gather(crew);
        order.draw();
        takeTurns();
        holdThrowers(second);
        grantWays(barred[second]);
        settle();
        board.keep();
        for (int i = 0; i < order.size; i++) {
            int unit = order.units[i];
            turns.add(second, unit, crew[unit].outcome);
        }
    }

    private void takeTurns() {
        for (int u = 0; u < crew.length; u++) {
            crew[u].outcome = NONE;
        }
        for (int i = 0; i < order.size; i++) {
            Unit unit = crew[order.units[i]];
            // A turn that does not throw counts as waiting until the second's end has granted ways.
            unit.outcome = unit.nextThrow == NONE ? WAITED : THREW;
        }
    }

    private void holdThrowers(int second) {
        for (int u = 0; u < crew.length; u++) {
            Unit unit = crew[u];
            if (unit.outcome == THREW) {
                entries.markThrown(unit.nextThrow);
                unit.mode = HELD;
                unit.heldIn = second;
                board.makeSafe(u);
            }
        }
    }

    private void grantWays(int barredNow) {
        for (int way = 0; way < WAYS; way++) {
            if (board.owners[way] == NONE && !hasWay(barredNow, way)) {
                board.owners[way] = leastAsker(way);
            }
        }
    }

    private int leastAsker(int way) {
        for (int u = 0; u < crew.length; u++) {
            if (crew[u].outcome == WAITED && hasWay(crew[u].asked(), way)) {
                return u;
            }
        }
        return NONE;
    }

    private void settle() {
        for (int u = 0; u < crew.length; u++) {
            if (crew[u].outcome == WAITED && board.ownsAll(u, crew[u].asked())) {
                crew[u].outcome = DONE;
            }
        }
        // The steps come before own seconds move on, for they are found by the own second.
        entries.doSteps(crew, board.values);
        for (int u = 0; u < crew.length; u++) {
            Unit unit = crew[u];
            if (unit.outcome == DONE) {
                board.giveBack(u, unit.given());
                unit.ownSecond++;
                unit.mode = ON;
            } else if (unit.outcome == WAITED) {
                unit.mode = WAITS;
            }
        }
    }

    /** One unit: what it is between seconds, and what its present turn is about. */
    private static final class Unit {
        int ownSecond = 0;
        /** The greatest second of its entries. */
        int lastEntry = NONE;
        /** ON, WAITS or HELD; whether it has ended hangs on its entries alone. */
        int mode = ON;
        int heldIn = NONE;

        /** The entry that it throws in its own second, or NONE. */
        int nextThrow = NONE;
        /** The ways that it has an entry for in its own second, a bit for each. */
        int waysNow = 0;
        /** The ways that it has an odd number of entries for in lesser seconds. */
        int oddBefore = 0;
        /** What came of its turn in the present second of the house; NONE when it took none. */
        int outcome = NONE;

        boolean hasEnded() {
            return ownSecond > lastEntry;
        }

        boolean acts() {
            return mode != HELD && !hasEnded();
        }

        int asked() {
            return waysNow & ~oddBefore;
        }

        int given() {
            return waysNow & oddBefore;
        }
    }

    /** What the units were told, in the order in which they were told it. */
    private static final class Entries {
        final int[] kinds = new int[MOST_ENTRIES];
        final int[] units = new int[MOST_ENTRIES];
        final int[] seconds = new int[MOST_ENTRIES];
        /** The output of a step, the way of an ask. */
        final int[] targets = new int[MOST_ENTRIES];
        final long[] values = new long[MOST_ENTRIES];
        int size = 0;

        void add(int kind, int unit, int second, int target, long v) {
            if (size >= MOST_ENTRIES) {
                return;
            }
            kinds[size] = kind;
            units[size] = unit;
            seconds[size] = second;
            targets[size] = target;
            values[size] = v;
            size++;
        }

        int find(int kind, int unit, int second, int target) {
            for (int e = 0; e < size; e++) {
                if (kinds[e] == kind && units[e] == unit && seconds[e] == second
                        && targets[e] == target) {
                    return e;
                }
            }
            return NONE;
        }

        void markThrown(int e) {
            if (e >= 0 && e < size) {
                kinds[e] = THROWN;
            }
        }

        /** Tells every unit what its own second holds, in one pass for all of them. */
        void brief(Unit[] crew) {
            for (int u = 0; u < crew.length; u++) {
                crew[u].nextThrow = NONE;
                crew[u].waysNow = 0;
                crew[u].oddBefore = 0;
            }
            for (int e = 0; e < size; e++) {
                Unit unit = crew[units[e]];
                boolean now = seconds[e] == unit.ownSecond;
                if (kinds[e] == THROW && now) {
                    unit.nextThrow = e;
                } else if (kinds[e] == ASK && now) {
                    unit.waysNow |= 1 << targets[e];
                } else if (kinds[e] == ASK && seconds[e] < unit.ownSecond) {
                    unit.oddBefore ^= 1 << targets[e];
                }
            }
        }

        /** Does the steps of all units whose turn came out well. */
        void doSteps(Unit[] crew, long[] outputs) {
            for (int e = 0; e < size; e++) {
                Unit unit = crew[units[e]];
                if (kinds[e] == STEP && unit.outcome == DONE && seconds[e] == unit.ownSecond) {
                    outputs[targets[e]] = values[e];
                }
            }
        }
    }

    /** The order of a second's turns, drawn with a g that goes on from second to second. */
    private static final class Order {
        private static final long FACTOR = 6364136223846793005L;
        private static final long ADDEND = 1442695040888963407L;

        final int[] units;
        int size = 0;
        long g = 0L;

        Order(int crewSize) {
            units = new int[crewSize];
        }

        void gather(Unit[] crew) {
            size = 0;
            for (int u = 0; u < crew.length && size < units.length; u++) {
                if (crew[u].acts()) {
                    units[size] = u;
                    size++;
                }
            }
        }

        void draw() {
            for (int drawn = 0; drawn < size; drawn++) {
                g = g * FACTOR + ADDEND;
                int before = (int) ((g >>> 33) % (size - drawn));
                moveForward(drawn + before, drawn);
            }
        }

        /** Those passed over move up by one, so that those left stay sorted by their numbers. */
        private void moveForward(int from, int to) {
            int unit = units[from];
            for (int i = from; i > to; i--) {
                units[i] = units[i - 1];
            }
            units[to] = unit;
        }
    }

    /** All turns from the beginning. */
    private static final class Turns {
        final int[] seconds;
        final int[] units;
        final int[] outcomes;
        int size = 0;

        Turns(int crewSize) {
            int most = crewSize * MOST_SECONDS;
            seconds = new int[most];
            units = new int[most];
            outcomes = new int[most];
        }

        void add(int second, int unit, int outcome) {
            if (size >= seconds.length) {
                return;
            }
            seconds[size] = second;
            units[size] = unit;
            outcomes[size] = outcome;
            size++;
        }

        int look(int k, int what) {
            if (k < 0 || k >= size) {
                return NONE;
            }
            switch (what) {
                case 0:
                    return seconds[k];
                case 1:
                    return units[k];
                case 2:
                    return outcomes[k];
                default:
                    return NONE;
            }
        }
    }

    /** Outputs and ways: how they are now, and how they were at the end of each second. */
    private static final class Board {
        final long[] values;
        final long[] safeValues;
        final int[] owners = new int[WAYS];
        final long[] pastValues;
        final int[] pastOwners = new int[MOST_SECONDS * WAYS];
        /** How many seconds of the house were done. */
        int seconds = 0;

        Board(int crewSize) {
            int outputs = crewSize * OUTPUTS_OF_A_UNIT;
            values = new long[outputs];
            safeValues = new long[outputs];
            pastValues = new long[MOST_SECONDS * outputs];
            Arrays.fill(owners, NONE);
        }

        boolean hasOutput(int k) {
            return k >= 0 && k < values.length;
        }

        boolean wasDone(int second) {
            return second >= 0 && second < seconds;
        }

        long valueAt(int k, int second) {
            if (!hasOutput(k)) {
                return 0L;
            }
            if (second == NOW) {
                return values[k];
            }
            return wasDone(second) ? pastValues[second * values.length + k] : 0L;
        }

        int ownerAt(int way, int second) {
            if (!isWay(way)) {
                return NONE;
            }
            if (second == NOW) {
                return owners[way];
            }
            return wasDone(second) ? pastOwners[second * WAYS + way] : NONE;
        }

        void makeSafe(int unit) {
            int first = unit * OUTPUTS_OF_A_UNIT;
            for (int k = first; k < first + OUTPUTS_OF_A_UNIT && k < values.length; k++) {
                values[k] = safeValues[k];
            }
        }

        boolean ownsAll(int unit, int ways) {
            for (int way = 0; way < WAYS; way++) {
                if (hasWay(ways, way) && owners[way] != unit) {
                    return false;
                }
            }
            return true;
        }

        void giveBack(int unit, int ways) {
            for (int way = 0; way < WAYS; way++) {
                if (hasWay(ways, way) && owners[way] == unit) {
                    owners[way] = NONE;
                }
            }
        }

        /** Keeps how things are at the end of the second that was just done. */
        void keep() {
            if (seconds >= MOST_SECONDS) {
                return;
            }
            System.arraycopy(values, 0, pastValues, seconds * values.length, values.length);
            System.arraycopy(owners, 0, pastOwners, seconds * WAYS, WAYS);
            seconds++;
        }

        void shut() {
            System.arraycopy(safeValues, 0, values, 0, values.length);
            Arrays.fill(owners, NONE);
        }
    }
}

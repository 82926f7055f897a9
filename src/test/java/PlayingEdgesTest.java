import java.math.BigInteger;
import java.util.ArrayList;
import java.util.List;

/** Promises 7 and 13 and the terms of a second of the house: bounds, and what lies beyond them. */
public final class PlayingEdgesTest {
    public static void main(String[] args) {
        playSeconds();
        playNoSeconds();
        playOneSecond();
        playSixtyFour();
        playSixtyThreeAndOne();
        playBySingleSeconds();
        playNothingTold();
        playAllHaveEnded();
        playAllAreHeld();
        playAllWait();
        playUntilTheLastHasEnded();
        playClosed();

        endedAtItsLastEntry();
        endedBeyondTheHouse();
        leastUnitAndLeastWay();
        allUnitsAskForAllWays();
        ownedAlready();
        throwsInTheFirstAndLastSecond();
        throwsWhileOthersGoOn();
        throwsAndItsNeighbours();
        givesWhatAnotherWaitsFor();

        orderWithExtremeSeeds();
        orderOfOneUnit();
        orderOfEachNumberOfUnits();
        orderGoesOnFromSecondToSecond();
        orderOfEachPlay();

        logTurn();
        logWhat();
        logNothingYet();
        logAsLongAsItMayBe();
        logClosed();
        Due.end();
    }

    /** So many units that are on up to the house's last second and beyond. */
    private static UnitThreads longRunning(int units) {
        UnitThreads x = new UnitThreads(units);
        for (int u = 0; u < units; u++) {
            x.step(u, 200, 4 * u, 1L);
        }
        return x;
    }

    // Promise 7.

    private static void playSeconds() {
        UnitThreads x = longRunning(1);
        for (int seconds : Edges.beyond(0, 64)) {
            Due.is("P7 seconds out of bounds: " + seconds, x.play(1L, seconds), -1);
        }
        Due.is("P7 out of bounds: no second was done", x.count(0), 0);
        Due.is("P7 out of bounds: no turn", x.count(1), 0);
        Due.is("P7 out of bounds: own second", x.count(4), 0);
    }

    private static void playNoSeconds() {
        UnitThreads x = longRunning(1);
        Due.is("P7 the least, 0 seconds", x.play(1L, 0), 0);
        Due.is("P7 0 seconds: none was done", x.count(0), 0);
        Due.is("P7 0 seconds: no turn", x.count(1), 0);
    }

    private static void playOneSecond() {
        UnitThreads x = longRunning(2);
        Due.is("P7 one second", x.play(1L, 1), 1);
        Due.is("P7 one second was done", x.count(0), 1);
        Due.is("P7 one turn of each", x.count(1), 2);
    }

    private static void playSixtyFour() {
        UnitThreads x = longRunning(1);
        Due.is("P7 the greatest, 64 seconds", x.play(1L, 64), 64);
        Due.is("P7 64 were done", x.count(0), 64);
        Due.is("P7 one more is not done", x.play(1L, 1), 0);
        Due.is("P7 64 more are not done", x.play(1L, 64), 0);
        Due.is("P7 0 more", x.play(1L, 0), 0);
        Due.is("P7 65 more are out of bounds still", x.play(1L, 65), -1);
        Due.is("P7 64 were done still", x.count(0), 64);
        Due.is("P7 64 turns", x.count(1), 64);
        Due.is("P7 the unit is on still", x.state(0), 0);
        Due.is("P7 its own second", x.count(4), 64);
    }

    private static void playSixtyThreeAndOne() {
        UnitThreads x = longRunning(1);
        Due.is("P7 63 seconds", x.play(1L, 63), 63);
        Due.is("P7 64 told, 1 is left", x.play(1L, 64), 1);
        Due.is("P7 none is left", x.play(1L, 64), 0);
        x = longRunning(1);
        x.play(1L, 63);
        Due.is("P7 2 told, 1 is left", x.play(1L, 2), 1);
    }

    private static void playBySingleSeconds() {
        UnitThreads x = longRunning(1);
        for (int second = 0; second < 64; second++) {
            Due.is("P7 single second " + second, x.play(second, 1), 1);
        }
        Due.is("P7 the 65th single second", x.play(64L, 1), 0);
    }

    private static void playNothingTold() {
        for (int units = 1; units <= 8; units++) {
            UnitThreads x = new UnitThreads(units);
            Due.is("P7 nothing told: no second", x.play(1L, 64), 0);
            Due.is("P7 nothing told: none was done", x.count(0), 0);
        }
    }

    private static void playAllHaveEnded() {
        UnitThreads x = new UnitThreads(2);
        x.step(0, 0, 0, 1L);
        x.step(1, 2, 4, 1L);
        Due.is("P7 as many as the last to end needs", x.play(1L, 64), 3);
        Due.is("P7 all have ended", x.play(1L, 1), 0);
        x.step(0, 1, 0, 2L);
        Due.is("P7 one is on again", x.play(1L, 64), 1);
        Due.is("P7 seconds in all", x.count(0), 4);
    }

    private static void playAllAreHeld() {
        UnitThreads x = new UnitThreads(2);
        x.throwsAt(0, 0);
        x.throwsAt(1, 2);
        x.step(0, 5, 0, 1L);
        Due.is("P7 until the last is held", x.play(1L, 64), 3);
        Due.is("P7 all are held", x.play(1L, 64), 0);
        x.restart(0);
        Due.is("P7 one is on again", x.play(1L, 64), 6);
        Due.is("P7 the other is held still", x.state(1), 2);
    }

    private static void playAllWait() {
        UnitThreads x = new UnitThreads(2);
        x.asks(0, 0, 0);
        x.play(1L, 64);
        x.asks(1, 0, 0);
        Due.is("P7 one that waits for ever plays on", x.play(1L, 64), 63);
        Due.is("P7 it waits", x.state(1), 1);
        Due.is("P7 its own second", x.count(5), 0);
        Due.is("P7 its turns", x.count(1), 64);
    }

    private static void playUntilTheLastHasEnded() {
        for (int last = 0; last < 64; last++) {
            UnitThreads x = new UnitThreads(1);
            x.step(0, last, 0, 1L);
            Due.is("P7 last entry in " + last, x.play(1L, 64), last + 1);
        }
        for (int last = 64; last <= 200; last++) {
            UnitThreads x = new UnitThreads(1);
            x.step(0, last, 0, 1L);
            Due.is("P7 last entry beyond the house, " + last, x.play(1L, 64), 64);
            Due.is("P7 its step was not done, " + last, x.output(0, -1), 0L);
        }
    }

    private static void playClosed() {
        UnitThreads x = longRunning(1);
        x.play(1L, 2);
        x.close();
        for (int seconds : new int[] {0, 1, 64, -1, 65}) {
            Due.is("P7 closed: " + seconds, x.play(1L, seconds), -1);
        }
        Due.is("P7 closed: no second more", x.count(0), 2);
        Due.is("P7 closed: no turn more", x.count(1), 2);
    }

    // The terms.

    private static void endedAtItsLastEntry() {
        UnitThreads x = new UnitThreads(3);
        x.step(0, 1, 0, 1L);
        x.asks(1, 1, 0);
        x.throwsAt(2, 1);
        x.play(0L, 1);
        for (int u = 0; u < 3; u++) {
            Due.is("P10 own second equal to its entry's: on, unit " + u, x.state(u), 0);
        }
        x.play(0L, 1);
        Due.is("P10 one greater than its step's: ended", x.state(0), 3);
        Due.is("P10 one greater than its ask's: ended", x.state(1), 3);
        Due.is("P10 equal to its throw's: held", x.state(2), 2);
        x.restart(2);
        Due.is("P10 equal to its thrown throw's: on", x.state(2), 0);
        x.play(0L, 1);
        Due.is("P10 one greater than its throw's: ended", x.state(2), 3);
    }

    private static void endedBeyondTheHouse() {
        UnitThreads x = new UnitThreads(3);
        x.step(0, 62, 0, 1L);
        x.step(1, 63, 4, 1L);
        x.step(2, 64, 8, 1L);
        x.play(0L, 64);
        Due.is("P10 its last entry is in 62", x.state(0), 3);
        Due.is("P10 its last entry is in 63", x.state(1), 3);
        Due.is("P10 its last entry is in 64", x.state(2), 0);
        Due.is("P14 own second of the first", x.count(4), 63);
        Due.is("P14 own second of the second", x.count(5), 64);
        Due.is("P14 own second of the third", x.count(6), 64);
        Due.yes("P2 the own second 64 takes a step", x.step(1, 64, 4, 2L));
        Due.is("P10 on, though no second is left", x.state(1), 0);
    }

    private static void leastUnitAndLeastWay() {
        for (int least = 0; least < 8; least++) {
            UnitThreads x = new UnitThreads(8);
            for (int u = 7; u >= least; u--) {
                x.asks(u, 0, 0);
                x.asks(u, 0, 15);
            }
            x.play(least, 1);
            Due.is("P7 the least that asked for way 0", x.owner(0, -1), least);
            Due.is("P7 the least that asked for way 15", x.owner(15, -1), least);
            for (int u = 0; u < 8; u++) {
                Due.is("P7 who waits: unit " + u, x.state(u), u <= least ? 3 : 1);
            }
        }
    }

    private static void allUnitsAskForAllWays() {
        UnitThreads x = new UnitThreads(8);
        for (int way = 0; way < 16; way++) {
            for (int u = 0; u < 8; u++) {
                x.asks(u, 0, way);
                x.asks(u, 1, way);
            }
        }
        Due.is("P7 256 entries", x.count(2), 256);
        Due.is("P7 one after the other", x.play(3L, 64), 16);
        for (int second = 0; second < 16; second++) {
            Due.is("P7 way 0 in " + second, x.owner(0, second), second % 2 == 0 ? second / 2 : -1);
            Due.is("P7 way 15 in " + second, x.owner(15, second), second % 2 == 0 ? second / 2 : -1);
        }
        Due.is("P7 turns", x.count(1), 2 * (8 + 7 + 6 + 5 + 4 + 3 + 2 + 1));
    }

    private static void ownedAlready() {
        UnitThreads x = new UnitThreads(2);
        x.asks(1, 0, 3);
        x.asks(1, 0, 4);
        x.bar(4, 0);
        x.play(0L, 1);
        Due.is("P7 the greater got it first", x.owner(3, -1), 1);
        x.asks(0, 0, 3);
        x.bar(3, 1);
        x.play(0L, 1);
        Due.is("P7 neither the lesser nor a bar takes it", x.owner(3, -1), 1);
        Due.is("P7 owned already: not hindered by its bar", x.state(1), 3);
        Due.is("P7 the lesser waits", x.state(0), 1);
    }

    private static void throwsInTheFirstAndLastSecond() {
        UnitThreads x = new UnitThreads(2);
        x.throwsAt(0, 0);
        x.step(0, 0, 0, 7L);
        x.throwsAt(1, 63);
        x.step(1, 62, 4, 8L);
        x.step(1, 63, 4, 9L);
        x.safe(0, -1L);
        x.safe(4, -2L);
        Due.is("P7 all seconds", x.play(0L, 64), 64);
        Due.is("P12 held in the first second", x.held(0), 0);
        Due.is("P12 held in the last second", x.held(1), 63);
        Due.is("P8 safe at the end of the first", x.output(0, 0), -1L);
        Due.is("P8 its step before the last", x.output(4, 62), 8L);
        Due.is("P8 safe at the end of the last", x.output(4, 63), -2L);
        Due.yes("P11 restart of the first", x.restart(0));
        Due.is("P7 no second is left for it", x.play(0L, 64), 0);
        Due.is("P10 it is on", x.state(0), 0);
    }

    private static void throwsWhileOthersGoOn() {
        UnitThreads x = new UnitThreads(8);
        for (int u = 0; u < 8; u++) {
            x.asks(u, 0, 2 * u);
            x.step(u, 0, 4 * u, u + 1L);
            x.safe(4 * u, -1L);
        }
        x.throwsAt(0, 0);
        x.throwsAt(7, 0);
        x.play(9L, 1);
        for (int u = 0; u < 8; u++) {
            boolean threw = u == 0 || u == 7;
            Due.is("P7 step or safe value of unit " + u, x.output(4 * u, 0), threw ? -1L : u + 1L);
            Due.is("P7 one that throws asks for nothing: " + u, x.owner(2 * u, 0), threw ? -1 : u);
            Due.is("P7 own second of unit " + u, x.count(4 + u), threw ? 0 : 1);
        }
    }

    private static void throwsAndItsNeighbours() {
        for (int thrower = 0; thrower < 8; thrower++) {
            UnitThreads x = new UnitThreads(8);
            for (int k = 0; k < 32; k++) {
                x.step(k / 4, 0, k, k + 1L);
                x.safe(k, -k - 1L);
            }
            x.throwsAt(thrower, 1);
            x.play(0L, 64);
            for (int k = 0; k < 32; k++) {
                Due.is("P7 only the outputs of unit " + thrower + " are safe: " + k,
                        x.output(k, 1), k / 4 == thrower ? -k - 1L : k + 1L);
            }
        }
    }

    private static void givesWhatAnotherWaitsFor() {
        UnitThreads x = new UnitThreads(2);
        x.asks(1, 0, 15);
        x.asks(1, 1, 15);
        x.asks(0, 1, 15);
        x.play(0L, 64);
        Due.is("P9 owned by the greater", x.owner(15, 0), 1);
        Due.is("P9 given back at the end of second 1, owned by nobody", x.owner(15, 1), -1);
        Due.is("P9 the other's one second later", x.owner(15, 2), 0);
        Due.is("P7 three seconds", x.count(0), 3);
    }

    // The order.

    /** The order as the document tells it, in numbers without bounds; then g is cut to 64 bits. */
    private static BigInteger drawn(BigInteger g, int units, List<Integer> order) {
        List<Integer> left = new ArrayList<>();
        for (int u = 0; u < units; u++) {
            left.add(u);
        }
        for (int n = units; n > 0; n--) {
            g = g.multiply(new BigInteger("6364136223846793005"))
                    .add(new BigInteger("1442695040888963407")).mod(BigInteger.ONE.shiftLeft(64));
            order.add(left.remove(g.shiftRight(33).mod(BigInteger.valueOf(n)).intValue()));
        }
        return g;
    }

    private static void dueOrder(String what, int units, long seed, int seconds) {
        UnitThreads x = longRunning(units);
        x.play(seed, seconds);
        BigInteger g = BigInteger.valueOf(seed).mod(BigInteger.ONE.shiftLeft(64));
        List<Integer> order = new ArrayList<>();
        for (int second = 0; second < seconds; second++) {
            g = drawn(g, units, order);
        }
        for (int k = 0; k < order.size(); k++) {
            Due.is(what + ", seed " + seed + ": turn " + k, x.log(k, 1), order.get(k));
        }
        Due.is(what + ", seed " + seed + ": no turn more", x.log(order.size(), 1), -1);
    }

    private static void orderWithExtremeSeeds() {
        long[] seeds = {Long.MIN_VALUE, Long.MIN_VALUE + 1, -(1L << 33), -1L, 0L, 1L, 1L << 32,
            1L << 33, Long.MAX_VALUE - 1, Long.MAX_VALUE};
        for (long seed : seeds) {
            dueOrder("P13 order of eight", 8, seed, 20);
        }
    }

    private static void orderOfOneUnit() {
        for (long seed : new long[] {Long.MIN_VALUE, 0L, Long.MAX_VALUE}) {
            dueOrder("P13 order of one", 1, seed, 64);
        }
    }

    private static void orderOfEachNumberOfUnits() {
        for (int units = 1; units <= 8; units++) {
            for (long seed = -3; seed <= 3; seed++) {
                dueOrder("P13 order of " + units, units, seed, 40);
            }
        }
    }

    private static void orderGoesOnFromSecondToSecond() {
        UnitThreads x = longRunning(8);
        x.play(11L, 2);
        List<Integer> first = new ArrayList<>();
        drawn(BigInteger.valueOf(11L), 8, first);
        boolean same = true;
        for (int k = 0; k < 8; k++) {
            same &= x.log(8 + k, 1) == first.get(k);
        }
        Due.no("P7 the second does not begin with the seed anew", same);
    }

    private static void orderOfEachPlay() {
        UnitThreads x = longRunning(8);
        for (int i = 0; i < 5; i++) {
            x.play(11L, 1);
        }
        for (int k = 8; k < 40; k++) {
            Due.is("P7 each play begins with its seed: turn " + k, x.log(k, 1), x.log(k - 8, 1));
        }
    }

    // Promise 13.

    private static void logTurn() {
        UnitThreads x = longRunning(2);
        x.play(1L, 3);
        for (int what = 0; what < 3; what++) {
            for (int k : Edges.beyond(0, 5)) {
                Due.is("P13 no turn " + k + ", what " + what, x.log(k, what), -1);
            }
        }
        Due.is("P13 the first turn's second", x.log(0, 0), 0);
        Due.is("P13 the last turn's second", x.log(5, 0), 2);
        Due.is("P13 two different units", x.log(4, 1) + x.log(5, 1), 1);
        Due.is("P13 the last turn's outcome", x.log(5, 2), 0);
    }

    private static void logWhat() {
        UnitThreads x = longRunning(1);
        x.play(1L, 4);
        for (int what : Edges.beyond(0, 2)) {
            Due.is("P13 another what " + what, x.log(3, what), -1);
        }
        Due.is("P13 the least what", x.log(3, 0), 3);
        Due.is("P13 what 1", x.log(3, 1), 0);
        Due.is("P13 the greatest what", x.log(3, 2), 0);
    }

    private static void logNothingYet() {
        UnitThreads x = longRunning(8);
        for (int what = -1; what < 4; what++) {
            Due.is("P13 nothing yet, what " + what, x.log(0, what), -1);
            Due.is("P13 nothing yet, turn -1, what " + what, x.log(-1, what), -1);
        }
        x.play(1L, 0);
        Due.is("P13 nothing yet behind a play of 0", x.log(0, 0), -1);
    }

    private static void logAsLongAsItMayBe() {
        UnitThreads x = longRunning(8);
        x.throwsAt(7, 63);
        x.asks(6, 63, 0);
        x.bar(0, 63);
        x.play(1L, 64);
        Due.is("P13 512 turns", x.count(1), 512);
        for (int k = 0; k < 512; k += 3) {
            Due.is("P13 second of turn " + k, x.log(k, 0), k / 8);
        }
        Due.is("P13 the last turn", x.log(511, 0), 63);
        Due.is("P13 none behind it", x.log(512, 0), -1);
        int units = 0;
        for (int k = 504; k < 512; k++) {
            int unit = x.log(k, 1);
            units |= 1 << unit;
            Due.is("P13 outcome of unit " + unit, x.log(k, 2), unit == 7 ? 2 : unit == 6 ? 1 : 0);
        }
        Due.is("P13 all units had their last turn", units, 255);
    }

    private static void logClosed() {
        UnitThreads x = longRunning(1);
        x.play(1L, 2);
        x.close();
        Due.is("P13 closed: the last turn", x.log(1, 0), 1);
        Due.is("P13 closed: its outcome", x.log(1, 2), 0);
        Due.is("P13 closed: none behind it", x.log(2, 0), -1);
        Due.is("P13 closed: another what", x.log(1, 3), -1);
    }
}

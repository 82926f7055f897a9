/** Promises 1 to 6, sentence by sentence: the bounds they name, and what lies beyond these. */
public final class TellingEdgesTest {
    private static final int LEAST = Integer.MIN_VALUE;
    private static final int GREATEST = Integer.MAX_VALUE;

    public static void main(String[] args) {
        newObjectBelowOne();
        newObjectOneToEight();
        newObjectAboveEight();
        newObjectNothingTold();

        stepUnit();
        stepUnitThatWrapsAround();
        stepSecond();
        stepOutput();
        stepOutputOfAnotherUnit();
        stepValue();
        stepOwnSecond();
        stepOwnSecondOfOneThatWaits();
        stepOwnSecondOfOneThatIsHeld();
        stepSameStepTwice();
        stepClosed();

        asksUnit();
        asksSecond();
        asksWay();
        asksSameWayInThisSecond();
        asksSameWayWhileItWaits();
        asksSameGiveInThisSecond();
        asksBesideAStepAndAThrow();
        asksEvenAndOddNumbers();
        asksOwnSecond();
        asksClosed();

        throwsAtUnit();
        throwsAtSecond();
        throwsAtOneNotThrownYet();
        throwsAtOneThrown();
        throwsAtBesideStepAndAsk();
        throwsAtOwnSecond();
        throwsAtClosed();

        fullOfSteps();
        fullOfAsks();
        fullOfThrows();
        fullStaysFull();

        safeOutput();
        safeValue();
        safeFromNowOn();
        safeNeverTold();
        safeClosed();

        barWay();
        barOfAWayGivenBack();
        barSecond();
        barLastSecond();
        barSecondThatWasDone();
        barBarredThen();
        barOtherWaysAndSeconds();
        barAllWays();
        barClosed();
        Due.end();
    }

    // Promise 1.

    private static void dueUnits(String what, UnitThreads x, int units) {
        Due.is(what + ": the last unit is there", x.state(units - 1), 3);
        Due.is(what + ": no unit behind it", x.state(units), -1);
        Due.is(what + ": own second of the last", x.count(3 + units), 0);
        Due.is(what + ": none behind it", x.count(4 + units), -1);
        Due.yes(what + ": its last output", x.safe(4 * units - 1, 1L));
        Due.no(what + ": no output behind it", x.safe(4 * units, 1L));
        Due.yes(what + ": a step of the last", x.step(units - 1, 0, 4 * units - 1, 1L));
        Due.no(what + ": no step behind it", x.step(units, 0, 4 * units, 1L));
        Due.is(what + ": one unit is on", x.count(3), 1);
    }

    private static void newObjectBelowOne() {
        for (int units : new int[] {0, -1, -2, -8, -9, LEAST + 1, LEAST}) {
            dueUnits("P1 " + units + " counts as 1", new UnitThreads(units), 1);
        }
    }

    private static void newObjectOneToEight() {
        for (int units = 1; units <= 8; units++) {
            dueUnits("P1 " + units + " units", new UnitThreads(units), units);
        }
    }

    private static void newObjectAboveEight() {
        for (int units : new int[] {9, 10, 16, 256, 1 << 30, GREATEST - 1, GREATEST}) {
            dueUnits("P1 " + units + " counts as 8", new UnitThreads(units), 8);
        }
    }

    private static void newObjectNothingTold() {
        for (int units = 1; units <= 8; units++) {
            UnitThreads x = new UnitThreads(units);
            for (int k = 0; k < 4 * units; k++) {
                Due.is("P1 nothing told: output " + k, x.output(k, -1), 0L);
            }
            for (int way = 0; way < 16; way++) {
                Due.is("P1 nothing told: owner of " + way, x.owner(way, -1), -1);
            }
            for (int u = 0; u < units; u++) {
                Due.is("P1 nothing told: unit " + u + " has ended", x.state(u), 3);
                Due.is("P1 nothing told: unit " + u + " is not held", x.held(u), -1);
                Due.is("P1 nothing told: own second of " + u, x.count(4 + u), 0);
            }
            Due.is("P1 nothing told: no seconds", x.count(0), 0);
            Due.is("P1 nothing told: no turns", x.count(1), 0);
            Due.is("P1 nothing told: no entries", x.count(2), 0);
            Due.is("P1 nothing told: no unit is on", x.count(3), 0);
            Due.is("P1 nothing told: no second to play", x.play(1L, 64), 0);
        }
    }

    // Promise 2.

    private static void stepUnit() {
        for (int units = 1; units <= 8; units++) {
            UnitThreads x = new UnitThreads(units);
            for (int u : Edges.beyond(0, units - 1)) {
                Due.no("P2 step of no unit " + u + ", output 0", x.step(u, 0, 0, 1L));
                Due.no("P2 step of no unit " + u + ", output 4 u", x.step(u, 0, 4 * u, 1L));
            }
            Due.is("P2 no unit: nothing was taken", x.count(2), 0);
            for (int u = 0; u < units; u++) {
                Due.yes("P2 step of unit " + u, x.step(u, 0, 4 * u, 1L));
            }
            Due.is("P2 all units: all were taken", x.count(2), units);
        }
    }

    private static void stepUnitThatWrapsAround() {
        UnitThreads x = new UnitThreads(8);
        for (int k = 0; k < 4; k++) {
            Due.no("P2 4 u wraps to 0: least int", x.step(LEAST, 0, k, 1L));
            Due.no("P2 4 u wraps to 0: 2^30", x.step(1 << 30, 0, k, 1L));
            Due.no("P2 4 u wraps to 0: -2^30", x.step(-(1 << 30), 0, k, 1L));
            Due.no("P2 4 u wraps to 4", x.step((1 << 30) + 1, 0, 4 + k, 1L));
            Due.no("P2 outputs of unit -1", x.step(-1, 0, k - 4, 1L));
        }
        Due.is("P2 wrapped units: nothing was taken", x.count(2), 0);
    }

    private static void stepSecond() {
        UnitThreads x = new UnitThreads(1);
        for (int second : Edges.beyond(0, 200)) {
            Due.no("P2 step in no own second " + second, x.step(0, second, 0, 1L));
        }
        Due.is("P2 no own second: nothing was taken", x.count(2), 0);
        Due.is("P2 no own second: the unit has ended still", x.state(0), 3);
        Due.yes("P2 step in the greatest second, 200", x.step(0, 200, 0, 1L));
        Due.yes("P2 step in the least second, 0", x.step(0, 0, 0, 1L));
        Due.is("P2 least and greatest: both were taken", x.count(2), 2);
    }

    private static void stepOutput() {
        for (int u = 0; u < 8; u++) {
            UnitThreads x = new UnitThreads(8);
            for (int k : Edges.beyond(4 * u, 4 * u + 3)) {
                Due.no("P2 step of unit " + u + ", not its output " + k, x.step(u, 0, k, 1L));
            }
            Due.is("P2 not its output: nothing was taken", x.count(2), 0);
            for (int k = 4 * u; k < 4 * u + 4; k++) {
                Due.yes("P2 step of unit " + u + ", its output " + k, x.step(u, 0, k, k + 1L));
            }
            x.play(0L, 1);
            for (int k = 0; k < 32; k++) {
                Due.is("P2 steps of unit " + u + " alone: output " + k, x.output(k, -1),
                        k / 4 == u ? k + 1L : 0L);
            }
        }
    }

    private static void stepOutputOfAnotherUnit() {
        UnitThreads x = new UnitThreads(8);
        for (int u = 0; u < 8; u++) {
            for (int k = 0; k < 32; k++) {
                if (k / 4 != u) {
                    Due.no("P2 unit " + u + " has not the output " + k, x.step(u, 0, k, 1L));
                }
            }
        }
        Due.is("P2 another's output: nothing was taken", x.count(2), 0);
        Due.is("P2 another's output: no unit is on", x.count(3), 0);
    }

    private static void stepValue() {
        long[] values = {Long.MIN_VALUE, Long.MIN_VALUE + 1, Integer.MIN_VALUE - 1L, -1L, 0L, 1L,
            Integer.MAX_VALUE + 1L, 1L << 32, Long.MAX_VALUE - 1, Long.MAX_VALUE};
        UnitThreads x = new UnitThreads(1);
        for (int i = 0; i < values.length; i++) {
            Due.yes("P2 step with value " + values[i], x.step(0, i, i % 4, values[i]));
        }
        x.play(0L, 64);
        for (int i = 0; i < values.length; i++) {
            Due.is("P2 the whole value " + values[i], x.output(i % 4, i), values[i]);
        }
    }

    private static void stepOwnSecond() {
        UnitThreads x = new UnitThreads(2);
        x.step(0, 3, 0, 1L);
        x.step(1, 9, 4, 1L);
        x.play(0L, 6);
        Due.is("P2 own second of one that has ended", x.count(4), 4);
        Due.is("P2 own second of one that is on", x.count(5), 6);
        for (int second = 0; second < 4; second++) {
            Due.no("P2 less than its own 4, ended: " + second, x.step(0, second, 0, 2L));
        }
        for (int second = 0; second < 6; second++) {
            Due.no("P2 less than its own 6: " + second, x.step(1, second, 4, 2L));
        }
        Due.is("P2 less than its own: nothing was taken", x.count(2), 2);
        Due.is("P2 less than its own: it has ended still", x.state(0), 3);
        Due.yes("P2 its own 4", x.step(0, 4, 0, 3L));
        Due.yes("P2 its own 6, less than another's would do", x.step(1, 6, 4, 4L));
        Due.yes("P2 one more than its own", x.step(0, 5, 0, 5L));
        x.play(0L, 1);
        Due.is("P2 done in its own second 4", x.output(0, -1), 3L);
        Due.is("P2 done in its own second 6", x.output(4, -1), 4L);
    }

    private static void stepOwnSecondOfOneThatWaits() {
        UnitThreads x = new UnitThreads(1);
        x.step(0, 0, 0, 1L);
        x.asks(0, 1, 0);
        x.bar(0, 1);
        x.bar(0, 2);
        x.play(0L, 3);
        Due.is("P2 it waits in its own second 1", x.count(4), 1);
        Due.no("P2 less than the second it waits in", x.step(0, 0, 0, 2L));
        Due.yes("P2 the second it waits in", x.step(0, 1, 0, 3L));
        x.play(0L, 1);
        Due.is("P2 done when it has what it asked for", x.output(0, -1), 3L);
    }

    private static void stepOwnSecondOfOneThatIsHeld() {
        UnitThreads x = new UnitThreads(1);
        x.throwsAt(0, 1);
        x.play(0L, 64);
        Due.is("P2 held in its own second 1", x.count(4), 1);
        Due.no("P2 less than the second it is held in", x.step(0, 0, 0, 2L));
        Due.yes("P2 the second it is held in", x.step(0, 1, 0, 3L));
        Due.is("P2 a step does not free it", x.state(0), 2);
        x.restart(0);
        x.play(0L, 1);
        Due.is("P2 done behind the restart", x.output(0, -1), 3L);
    }

    private static void stepSameStepTwice() {
        UnitThreads x = new UnitThreads(1);
        Due.yes("P2 a step", x.step(0, 0, 0, 1L));
        Due.yes("P2 the same step is taken again", x.step(0, 0, 0, 1L));
        Due.is("P2 the same step twice: two entries", x.count(2), 2);
    }

    private static void stepClosed() {
        UnitThreads x = new UnitThreads(2);
        Due.yes("P2 before the close", x.step(0, 0, 0, 1L));
        x.close();
        Due.no("P2 closed: its own second", x.step(0, 0, 0, 2L));
        Due.no("P2 closed: the greatest second", x.step(1, 200, 7, 2L));
        Due.no("P2 closed and out of bounds", x.step(2, 201, 8, 2L));
        Due.is("P2 closed: nothing was taken", x.count(2), 1);
    }

    // Promise 3.

    private static void asksUnit() {
        for (int units = 1; units <= 8; units++) {
            UnitThreads x = new UnitThreads(units);
            for (int u : Edges.beyond(0, units - 1)) {
                Due.no("P3 ask of no unit " + u, x.asks(u, 0, 0));
            }
            Due.is("P3 no unit: nothing was taken", x.count(2), 0);
            for (int u = 0; u < units; u++) {
                Due.yes("P3 ask of unit " + u, x.asks(u, 0, 0));
            }
            Due.is("P3 all units: all were taken", x.count(2), units);
        }
    }

    private static void asksSecond() {
        UnitThreads x = new UnitThreads(1);
        for (int second : Edges.beyond(0, 200)) {
            Due.no("P3 ask in no own second " + second, x.asks(0, second, 0));
        }
        Due.is("P3 no own second: nothing was taken", x.count(2), 0);
        Due.is("P3 no own second: the unit has ended still", x.state(0), 3);
        Due.yes("P3 ask in the greatest second, 200", x.asks(0, 200, 0));
        Due.yes("P3 ask in the least second, 0", x.asks(0, 0, 0));
        Due.is("P3 least and greatest: both were taken", x.count(2), 2);
    }

    private static void asksWay() {
        UnitThreads x = new UnitThreads(1);
        for (int way : Edges.beyond(0, 15)) {
            Due.no("P3 ask for no way " + way, x.asks(0, 0, way));
        }
        Due.is("P3 no way: nothing was taken", x.count(2), 0);
        for (int way = 0; way < 16; way++) {
            Due.yes("P3 ask for way " + way, x.asks(0, 0, way));
        }
        Due.is("P3 all ways in one second: all were taken", x.count(2), 16);
        x.play(0L, 1);
        for (int way = 0; way < 16; way++) {
            Due.is("P3 all ways asked for: owner of " + way, x.owner(way, -1), 0);
        }
    }

    private static void asksSameWayInThisSecond() {
        UnitThreads x = new UnitThreads(2);
        for (int way : new int[] {0, 15}) {
            for (int second : new int[] {0, 200}) {
                Due.yes("P3 the first entry for way " + way, x.asks(0, second, way));
                Due.no("P3 an entry for way " + way + " in " + second, x.asks(0, second, way));
                Due.yes("P3 the same of another unit", x.asks(1, second, way));
            }
        }
        Due.yes("P3 the same way one second later", x.asks(0, 1, 0));
        Due.yes("P3 the same way one second before", x.asks(0, 199, 0));
        Due.yes("P3 the next way in the same second", x.asks(0, 0, 1));
        Due.yes("P3 the way before in the same second", x.asks(0, 0, 14));
        Due.is("P3 the refused ones were not taken", x.count(2), 12);
    }

    private static void asksSameWayWhileItWaits() {
        UnitThreads x = new UnitThreads(1);
        x.asks(0, 0, 4);
        x.bar(4, 0);
        x.play(0L, 1);
        Due.is("P3 it waits", x.state(0), 1);
        Due.no("P3 the way that it waits for", x.asks(0, 0, 4));
        Due.yes("P3 another way while it waits", x.asks(0, 0, 5));
        x.bar(5, 1);
        x.play(0L, 1);
        Due.is("P3 it owns the one", x.owner(4, -1), 0);
        Due.is("P3 it waits for the other", x.state(0), 1);
        Due.no("P3 the way that it got by waiting", x.asks(0, 0, 4));
    }

    private static void asksSameGiveInThisSecond() {
        UnitThreads x = new UnitThreads(1);
        x.asks(0, 0, 4);
        Due.yes("P3 a give", x.asks(0, 1, 4));
        Due.no("P3 the same give", x.asks(0, 1, 4));
        x.play(0L, 1);
        Due.is("P3 owned", x.owner(4, -1), 0);
        Due.no("P3 the same give when its second has come", x.asks(0, 1, 4));
        x.play(0L, 1);
        Due.is("P3 given back once", x.owner(4, -1), -1);
        Due.yes("P3 asked for anew", x.asks(0, 2, 4));
        x.play(0L, 1);
        Due.is("P3 owned anew: refused gives do not count", x.owner(4, -1), 0);
    }

    private static void asksBesideAStepAndAThrow() {
        UnitThreads x = new UnitThreads(1);
        x.step(0, 0, 0, 0L);
        x.step(0, 0, 3, 3L);
        Due.yes("P3 a step to output 0 is no entry for way 0", x.asks(0, 0, 0));
        Due.yes("P3 a step to output 3 is no entry for way 3", x.asks(0, 0, 3));
        x.throwsAt(0, 1);
        Due.yes("P3 a throw is no entry for way 0", x.asks(0, 1, 0));
        x.play(0L, 64);
        Due.is("P3 held", x.state(0), 2);
        Due.no("P3 an entry for way 0 while held", x.asks(0, 1, 0));
        Due.yes("P3 a way while held", x.asks(0, 1, 7));
        x.restart(0);
        x.play(0L, 1);
        Due.is("P3 neither step nor throw counts: way 0 is given back", x.owner(0, -1), -1);
        Due.is("P3 way 3 is owned still", x.owner(3, -1), 0);
        Due.is("P3 way 7 was asked for", x.owner(7, -1), 0);
    }

    private static void asksEvenAndOddNumbers() {
        UnitThreads x = new UnitThreads(1);
        for (int second = 0; second < 64; second++) {
            Due.yes("P3 entry " + second, x.asks(0, second, 15));
        }
        x.play(0L, 64);
        for (int second = 0; second < 64; second++) {
            Due.is("P3 " + second + " entries in lesser seconds", x.owner(15, second),
                    second % 2 == 0 ? 0 : -1);
        }
    }

    private static void asksOwnSecond() {
        UnitThreads x = new UnitThreads(2);
        x.step(0, 3, 0, 1L);
        x.play(0L, 64);
        for (int second = 0; second < 4; second++) {
            Due.no("P3 less than its own 4: " + second, x.asks(0, second, 5));
        }
        Due.is("P3 less than its own: nothing was taken", x.count(2), 1);
        Due.yes("P3 its own 4", x.asks(0, 4, 5));
        Due.yes("P3 one more than its own", x.asks(0, 5, 5));
        Due.yes("P3 second 0 of another unit", x.asks(1, 0, 5));
        x.play(0L, 1);
        Due.is("P3 refused entries are not counted: it asks", x.owner(5, -1), 0);
    }

    private static void asksClosed() {
        UnitThreads x = new UnitThreads(2);
        Due.yes("P3 before the close", x.asks(0, 0, 0));
        x.close();
        Due.no("P3 closed: its own second", x.asks(0, 0, 1));
        Due.no("P3 closed: the greatest second and way", x.asks(1, 200, 15));
        Due.no("P3 closed and out of bounds", x.asks(2, 201, 16));
        Due.is("P3 closed: nothing was taken", x.count(2), 1);
    }

    // Promise 4.

    private static void throwsAtUnit() {
        for (int units = 1; units <= 8; units++) {
            UnitThreads x = new UnitThreads(units);
            for (int u : Edges.beyond(0, units - 1)) {
                Due.no("P4 throw of no unit " + u, x.throwsAt(u, 0));
            }
            Due.is("P4 no unit: nothing was taken", x.count(2), 0);
            for (int u = 0; u < units; u++) {
                Due.yes("P4 throw of unit " + u, x.throwsAt(u, 0));
            }
            Due.is("P4 all units: all were taken", x.count(2), units);
            Due.is("P4 all units throw at once", x.play(0L, 64), 1);
            for (int u = 0; u < units; u++) {
                Due.is("P4 all are held: unit " + u, x.state(u), 2);
            }
        }
    }

    private static void throwsAtSecond() {
        UnitThreads x = new UnitThreads(1);
        for (int second : Edges.beyond(0, 200)) {
            Due.no("P4 throw in no own second " + second, x.throwsAt(0, second));
        }
        Due.is("P4 no own second: nothing was taken", x.count(2), 0);
        Due.is("P4 no own second: the unit has ended still", x.state(0), 3);
        Due.yes("P4 throw in the greatest second, 200", x.throwsAt(0, 200));
        Due.yes("P4 throw in the least second, 0", x.throwsAt(0, 0));
        Due.is("P4 least and greatest: both were taken", x.count(2), 2);
    }

    private static void throwsAtOneNotThrownYet() {
        UnitThreads x = new UnitThreads(2);
        for (int second : new int[] {0, 200}) {
            Due.yes("P4 the first throw in " + second, x.throwsAt(0, second));
            Due.no("P4 one that was not thrown yet in " + second, x.throwsAt(0, second));
            Due.yes("P4 the same of another unit", x.throwsAt(1, second));
        }
        Due.yes("P4 one second later", x.throwsAt(0, 1));
        Due.yes("P4 one second before", x.throwsAt(0, 199));
        Due.is("P4 the refused ones were not taken", x.count(2), 6);
    }

    private static void throwsAtOneThrown() {
        UnitThreads x = new UnitThreads(1);
        x.throwsAt(0, 0);
        x.step(0, 0, 0, 1L);
        x.play(0L, 64);
        x.restart(0);
        Due.yes("P4 one that was thrown is none not thrown yet", x.throwsAt(0, 0));
        Due.no("P4 now it has one not thrown yet", x.throwsAt(0, 0));
        Due.is("P4 both are entries", x.count(2), 3);
        Due.is("P4 the new one is thrown", x.play(0L, 64), 1);
        Due.is("P4 held anew", x.held(0), 1);
    }

    private static void throwsAtBesideStepAndAsk() {
        UnitThreads x = new UnitThreads(1);
        x.step(0, 0, 0, 0L);
        x.asks(0, 0, 0);
        Due.yes("P4 neither a step nor an ask is a throw", x.throwsAt(0, 0));
        Due.is("P4 three entries", x.count(2), 3);
    }

    private static void throwsAtOwnSecond() {
        UnitThreads x = new UnitThreads(2);
        x.step(0, 3, 0, 1L);
        x.play(0L, 64);
        for (int second = 0; second < 4; second++) {
            Due.no("P4 less than its own 4: " + second, x.throwsAt(0, second));
        }
        Due.is("P4 less than its own: nothing was taken", x.count(2), 1);
        Due.yes("P4 its own 4", x.throwsAt(0, 4));
        Due.yes("P4 second 0 of another unit", x.throwsAt(1, 0));
        Due.is("P4 both throw", x.play(0L, 64), 1);
        Due.is("P4 held in its own 4", x.state(0), 2);
        Due.is("P4 held in its own 0", x.state(1), 2);
    }

    private static void throwsAtClosed() {
        UnitThreads x = new UnitThreads(2);
        Due.yes("P4 before the close", x.throwsAt(0, 0));
        x.close();
        Due.no("P4 closed: its own second", x.throwsAt(1, 0));
        Due.no("P4 closed: the greatest second", x.throwsAt(1, 200));
        Due.no("P4 closed and out of bounds", x.throwsAt(2, 201));
        Due.is("P4 closed: nothing was taken", x.count(2), 1);
    }

    // 300 entries in all: promises 2, 3 and 4.

    private static void dueFull(String what, UnitThreads x) {
        Due.is(what + ": entries", x.count(2), 300);
        Due.no(what + ": P2 no step more", x.step(1, 150, 4, 1L));
        Due.no(what + ": P3 no ask more", x.asks(1, 150, 15));
        Due.no(what + ": P4 no throw more", x.throwsAt(1, 199));
        Due.is(what + ": entries still", x.count(2), 300);
    }

    private static void fullOfSteps() {
        UnitThreads x = new UnitThreads(2);
        for (int i = 0; i < 299; i++) {
            x.step(0, i % 201, i % 4, i);
        }
        Due.is("P2 one less than full", x.count(2), 299);
        Due.no("P2 one refused for its number takes no place", x.step(0, 0, 4, 1L));
        Due.yes("P2 the 300th", x.step(0, 200, 0, 1L));
        dueFull("full of steps", x);
        Due.is("P2 the unit without entries has ended still", x.state(1), 3);
    }

    private static void fullOfAsks() {
        UnitThreads x = new UnitThreads(2);
        for (int i = 0; i < 299; i++) {
            x.asks(0, i / 16, i % 16);
        }
        Due.is("P3 one less than full", x.count(2), 299);
        Due.no("P3 one refused as there is one takes no place", x.asks(0, 0, 0));
        Due.yes("P3 the 300th", x.asks(0, 200, 15));
        dueFull("full of asks", x);
        Due.is("P3 the unit without entries has ended still", x.state(1), 3);
    }

    private static void fullOfThrows() {
        UnitThreads x = new UnitThreads(3);
        for (int i = 0; i < 299; i++) {
            x.throwsAt(i / 150 * 2, i % 150);
        }
        Due.is("P4 one less than full", x.count(2), 299);
        Due.no("P4 one refused as there is one takes no place", x.throwsAt(0, 0));
        Due.yes("P4 the 300th", x.throwsAt(2, 200));
        dueFull("full of throws", x);
        Due.is("P4 the unit without entries has ended still", x.state(1), 3);
    }

    private static void fullStaysFull() {
        UnitThreads x = new UnitThreads(2);
        for (int i = 0; i < 299; i++) {
            x.step(0, 0, i % 4, i);
        }
        x.throwsAt(1, 0);
        x.play(0L, 64);
        dueFull("full, and all is done or thrown", x);
        Due.is("P2 all 299 steps were done", x.output(2, -1), 298L);
        Due.is("P2 the step before the last", x.output(1, -1), 297L);
        x.restart(1);
        dueFull("full, behind a restart", x);
        Due.yes("P5 safe is no entry", x.safe(0, 1L));
        Due.yes("P6 bar is no entry", x.bar(0, 63));
    }

    // Promise 5.

    private static void safeOutput() {
        for (int units = 1; units <= 8; units++) {
            UnitThreads x = new UnitThreads(units);
            for (int k : Edges.beyond(0, 4 * units - 1)) {
                Due.no("P5 no such output " + k, x.safe(k, 9L));
            }
            Due.yes("P5 the least output", x.safe(0, 7L));
            Due.yes("P5 the greatest output", x.safe(4 * units - 1, 8L));
            x.close();
            for (int k = 0; k < 4 * units; k++) {
                Due.is("P5 safe value of " + k, x.output(k, -1),
                        k == 0 ? 7L : k == 4 * units - 1 ? 8L : 0L);
            }
        }
    }

    private static void safeValue() {
        long[] values = {Long.MIN_VALUE, Integer.MIN_VALUE - 1L, -1L, Integer.MAX_VALUE + 1L,
            1L << 32, Long.MAX_VALUE};
        UnitThreads x = new UnitThreads(2);
        for (int k = 0; k < values.length; k++) {
            Due.yes("P5 safe value " + values[k], x.safe(k, values[k]));
        }
        x.throwsAt(0, 0);
        x.throwsAt(1, 0);
        x.play(0L, 64);
        for (int k = 0; k < values.length; k++) {
            Due.is("P5 the whole safe value " + values[k], x.output(k, -1), values[k]);
        }
    }

    private static void safeFromNowOn() {
        UnitThreads x = new UnitThreads(1);
        x.step(0, 0, 0, 5L);
        x.throwsAt(0, 1);
        x.throwsAt(0, 2);
        x.safe(0, 6L);
        Due.is("P5 before all: the output stays", x.output(0, -1), 0L);
        x.play(0L, 1);
        Due.is("P5 its step was done", x.output(0, -1), 5L);
        x.safe(0, 7L);
        Due.is("P5 while it is on: the output stays", x.output(0, -1), 5L);
        x.play(0L, 1);
        Due.is("P5 the safe value told last", x.output(0, -1), 7L);
        x.safe(0, 8L);
        Due.is("P5 while it is held: the output stays", x.output(0, -1), 7L);
        Due.is("P5 the past stays", x.output(0, 1), 7L);
        x.restart(0);
        Due.is("P5 behind the restart: the output stays", x.output(0, -1), 7L);
        x.play(0L, 2);
        Due.is("P5 the next throw brings the new one", x.output(0, -1), 8L);
        x.safe(0, 9L);
        x.close();
        Due.is("P5 the close brings the newest", x.output(0, -1), 9L);
        Due.is("P5 the past stays behind the close", x.output(0, 3), 8L);
    }

    private static void safeNeverTold() {
        UnitThreads x = new UnitThreads(1);
        x.step(0, 0, 0, 5L);
        x.step(0, 0, 3, 5L);
        x.throwsAt(0, 1);
        x.play(0L, 64);
        Due.is("P5 never told: 0, the first output", x.output(0, -1), 0L);
        Due.is("P5 never told: 0, the last output", x.output(3, -1), 0L);
        Due.is("P5 never told: 5 before", x.output(3, 0), 5L);
    }

    private static void safeClosed() {
        UnitThreads x = new UnitThreads(1);
        x.safe(0, 1L);
        x.close();
        Due.no("P5 closed: the least output", x.safe(0, 2L));
        Due.no("P5 closed: the greatest output", x.safe(3, 2L));
        Due.no("P5 closed and no such output", x.safe(4, 2L));
        x.close();
        Due.is("P5 closed: the value stays", x.output(0, -1), 1L);
        Due.is("P5 closed: the other value stays", x.output(3, -1), 0L);
    }

    // Promise 6.

    private static void barWay() {
        UnitThreads x = new UnitThreads(1);
        for (int way : Edges.beyond(0, 15)) {
            Due.no("P6 no way " + way, x.bar(way, 1));
        }
        Due.yes("P6 the least way", x.bar(0, 1));
        Due.yes("P6 the greatest way", x.bar(15, 1));
        x.step(0, 0, 0, 1L);
        for (int way = 0; way < 16; way++) {
            x.asks(0, 1, way);
        }
        x.play(0L, 3);
        for (int way = 0; way < 16; way++) {
            boolean barred = way == 0 || way == 15;
            Due.is("P6 second 1: way " + way, x.owner(way, 1), barred ? -1 : 0);
            Due.is("P6 nothing is barred in second 2: way " + way, x.owner(way, 2), 0);
        }
    }

    private static void barOfAWayGivenBack() {
        UnitThreads x = new UnitThreads(1);
        x.asks(0, 0, 15);
        x.asks(0, 1, 15);
        x.bar(15, 1);
        x.play(0L, 64);
        Due.is("P6 a bar does not hinder giving back", x.owner(15, 1), -1);
        Due.is("P6 nor waits the unit", x.count(0), 2);
    }

    private static void barSecond() {
        UnitThreads x = new UnitThreads(1);
        for (int second : Edges.beyond(0, 63)) {
            Due.no("P6 no second of the house " + second, x.bar(3, second));
        }
        Due.yes("P6 the least second, 0", x.bar(3, 0));
        Due.yes("P6 the greatest second, 63", x.bar(3, 63));
        x.asks(0, 0, 3);
        x.asks(0, 1, 3);
        x.play(0L, 3);
        Due.is("P6 barred in second 0", x.owner(3, 0), -1);
        Due.is("P6 not barred in second 1", x.owner(3, 1), 0);
    }

    private static void barLastSecond() {
        UnitThreads x = new UnitThreads(1);
        x.bar(3, 63);
        x.asks(0, 62, 2);
        x.asks(0, 63, 2);
        x.asks(0, 63, 3);
        x.asks(0, 63, 4);
        Due.is("P6 64 seconds", x.play(0L, 64), 64);
        Due.is("P6 in second 62 nothing is barred", x.owner(2, 62), 0);
        Due.is("P6 barred in second 63", x.owner(3, 63), -1);
        Due.is("P6 the next way is not", x.owner(4, 63), 0);
        Due.is("P6 it waits, and gives nothing back", x.owner(2, 63), 0);
        Due.is("P6 it waits for ever", x.state(0), 1);
    }

    private static void barSecondThatWasDone() {
        UnitThreads x = new UnitThreads(1);
        x.step(0, 200, 0, 1L);
        Due.yes("P6 nothing was done: second 0", x.bar(1, 0));
        x.play(0L, 1);
        Due.no("P6 second 0 was done", x.bar(0, 0));
        Due.yes("P6 second 1 was not", x.bar(0, 1));
        x.play(0L, 2);
        for (int second = 0; second < 3; second++) {
            Due.no("P6 three were done: " + second, x.bar(2, second));
        }
        Due.yes("P6 three were done: 3", x.bar(2, 3));
        x.play(0L, 60);
        Due.no("P6 63 were done: 62", x.bar(4, 62));
        Due.yes("P6 63 were done: 63", x.bar(4, 63));
        x.play(0L, 1);
        Due.no("P6 64 were done: 63", x.bar(5, 63));
        Due.no("P6 64 were done: 64", x.bar(5, 64));
    }

    private static void barBarredThen() {
        UnitThreads x = new UnitThreads(1);
        for (int way : new int[] {0, 15}) {
            for (int second : new int[] {0, 63}) {
                Due.yes("P6 the first bar of " + way + " in " + second, x.bar(way, second));
                Due.no("P6 barred then: " + way + " in " + second, x.bar(way, second));
            }
        }
        x.asks(0, 0, 15);
        x.play(0L, 1);
        Due.is("P6 barred twice is barred", x.owner(15, -1), -1);
        Due.is("P6 and it waits", x.state(0), 1);
    }

    private static void barOtherWaysAndSeconds() {
        UnitThreads x = new UnitThreads(1);
        x.bar(7, 30);
        Due.yes("P6 the next way then", x.bar(8, 30));
        Due.yes("P6 the way before then", x.bar(6, 30));
        Due.yes("P6 this way one second later", x.bar(7, 31));
        Due.yes("P6 this way one second before", x.bar(7, 29));
        Due.no("P6 this way then", x.bar(7, 30));
    }

    private static void barAllWays() {
        UnitThreads x = new UnitThreads(1);
        for (int way = 0; way < 16; way++) {
            Due.yes("P6 all ways: " + way, x.bar(way, 0));
            x.asks(0, 0, way);
        }
        x.play(0L, 1);
        for (int way = 0; way < 16; way++) {
            Due.no("P6 all ways: barred then, and done " + way, x.bar(way, 0));
            Due.is("P6 all ways are barred: " + way, x.owner(way, 0), -1);
        }
        x.play(0L, 1);
        Due.is("P6 the second behind it is not: way 0", x.owner(0, 1), 0);
        Due.is("P6 the second behind it is not: way 15", x.owner(15, 1), 0);
    }

    private static void barClosed() {
        UnitThreads x = new UnitThreads(1);
        x.bar(0, 0);
        x.close();
        Due.no("P6 closed: the least way and second", x.bar(1, 0));
        Due.no("P6 closed: the greatest way and second", x.bar(15, 63));
        Due.no("P6 closed and barred then", x.bar(0, 0));
        Due.no("P6 closed and out of bounds", x.bar(16, 64));
    }
}

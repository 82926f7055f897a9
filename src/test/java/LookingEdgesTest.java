/** Promises 8 to 12, 14 and 15: the bounds they name, and what lies beyond these. */
public final class LookingEdgesTest {
    public static void main(String[] args) {
        outputNumber();
        outputSecond();
        outputNothingDone();
        outputOfAllSeconds();
        outputClosed();

        ownerWay();
        ownerSecond();
        ownerNothingDone();
        ownerOfAllSeconds();
        ownerGreatestUnit();
        ownerClosed();

        stateUnit();
        stateUnitClosed();
        stateOfEachKind();
        stateBehindWaiting();

        restartUnit();
        restartOneThatIsNotHeld();
        restartTwice();
        restartInItsOwnSecond();
        restartClosed();

        heldUnit();
        heldOneThatIsNotHeld();
        heldInTheNewestSecond();
        heldClosed();

        countWhat();
        countOwnSecondOfNoUnit();
        countNothingTold();
        countAsMuchAsThereMayBe();
        countClosed();

        closeNothingTold();
        closeAllEnded();
        closeEachKind();
        closeAllEight();
        closeTwice();
        closeOutputsAndWays();
        Due.end();
    }

    // Promise 8.

    private static void outputNumber() {
        for (int units = 1; units <= 8; units++) {
            UnitThreads x = new UnitThreads(units);
            for (int u = 0; u < units; u++) {
                for (int k = 4 * u; k < 4 * u + 4; k++) {
                    x.step(u, 0, k, k + 100L);
                    x.step(u, 1, k, k + 200L);
                }
            }
            x.play(0L, 64);
            for (int k : Edges.beyond(0, 4 * units - 1)) {
                Due.is("P8 no such output now: " + k, x.output(k, -1), 0L);
                Due.is("P8 no such output in second 0: " + k, x.output(k, 0), 0L);
                Due.is("P8 no such output in second 1: " + k, x.output(k, 1), 0L);
            }
            int last = 4 * units - 1;
            Due.is("P8 the least output then", x.output(0, 0), 100L);
            Due.is("P8 the least output now", x.output(0, -1), 200L);
            Due.is("P8 the greatest output then", x.output(last, 0), last + 100L);
            Due.is("P8 the greatest output now", x.output(last, -1), last + 200L);
        }
    }

    private static void outputSecond() {
        UnitThreads x = new UnitThreads(8);
        x.step(0, 0, 0, 5L);
        x.step(7, 2, 31, 6L);
        x.play(0L, 64);
        for (int second : Edges.beyond(-1, 2)) {
            Due.is("P8 a second that was not done: " + second, x.output(0, second), 0L);
            Due.is("P8 not done, the greatest output: " + second, x.output(31, second), 0L);
        }
        Due.is("P8 the first second", x.output(0, 0), 5L);
        Due.is("P8 the last second that was done", x.output(31, 2), 6L);
        Due.is("P8 -1 is now", x.output(31, -1), 6L);
    }

    private static void outputNothingDone() {
        UnitThreads x = new UnitThreads(2);
        x.step(0, 0, 0, 5L);
        x.safe(0, 6L);
        Due.is("P8 nothing done: now", x.output(0, -1), 0L);
        Due.is("P8 nothing done: second 0", x.output(0, 0), 0L);
        Due.is("P8 nothing done: second 63", x.output(0, 63), 0L);
        Due.is("P8 nothing done: second 64", x.output(0, 64), 0L);
    }

    private static void outputOfAllSeconds() {
        UnitThreads x = new UnitThreads(8);
        for (int second = 0; second < 64; second++) {
            x.step(0, second, 0, second + 1L);
            x.step(7, second, 31, -second - 1L);
        }
        x.play(0L, 64);
        for (int second = 0; second < 64; second++) {
            Due.is("P8 all seconds: first output in " + second, x.output(0, second), second + 1L);
            Due.is("P8 all seconds: last output in " + second, x.output(31, second), -second - 1L);
            Due.is("P8 all seconds: one between in " + second, x.output(16, second), 0L);
        }
        Due.is("P8 second 64 is never done", x.output(0, 64), 0L);
        Due.is("P8 now", x.output(0, -1), 64L);
    }

    private static void outputClosed() {
        UnitThreads x = new UnitThreads(1);
        x.step(0, 0, 3, 5L);
        x.safe(3, 6L);
        x.play(0L, 64);
        x.close();
        Due.is("P8 closed: now", x.output(3, -1), 6L);
        Due.is("P8 closed: then", x.output(3, 0), 5L);
        Due.is("P8 closed: not done", x.output(3, 1), 0L);
        Due.is("P8 closed: no such output", x.output(4, -1), 0L);
    }

    // Promise 9.

    private static void ownerWay() {
        UnitThreads x = new UnitThreads(1);
        for (int way = 0; way < 16; way++) {
            x.asks(0, 0, way);
        }
        x.step(0, 1, 0, 1L);
        x.play(0L, 64);
        for (int way : Edges.beyond(0, 15)) {
            Due.is("P9 no such way now: " + way, x.owner(way, -1), -1);
            Due.is("P9 no such way in second 0: " + way, x.owner(way, 0), -1);
            Due.is("P9 no such way in second 1: " + way, x.owner(way, 1), -1);
        }
        for (int way : new int[] {0, 15}) {
            Due.is("P9 the least and the greatest now: " + way, x.owner(way, -1), 0);
            Due.is("P9 the least and the greatest then: " + way, x.owner(way, 1), 0);
        }
    }

    private static void ownerSecond() {
        UnitThreads x = new UnitThreads(1);
        x.asks(0, 0, 0);
        x.asks(0, 0, 15);
        x.step(0, 2, 0, 1L);
        x.play(0L, 64);
        for (int second : Edges.beyond(-1, 2)) {
            Due.is("P9 a second that was not done: " + second, x.owner(0, second), -1);
            Due.is("P9 not done, the greatest way: " + second, x.owner(15, second), -1);
        }
        Due.is("P9 the first second", x.owner(0, 0), 0);
        Due.is("P9 the last second that was done", x.owner(15, 2), 0);
        Due.is("P9 -1 is now", x.owner(15, -1), 0);
    }

    private static void ownerNothingDone() {
        UnitThreads x = new UnitThreads(2);
        x.asks(0, 0, 0);
        for (int second : new int[] {-1, 0, 63, 64}) {
            Due.is("P9 nothing done: " + second, x.owner(0, second), -1);
        }
    }

    private static void ownerOfAllSeconds() {
        UnitThreads x = new UnitThreads(8);
        for (int second = 0; second < 64; second++) {
            x.asks(7, second, 15);
        }
        x.asks(3, 63, 0);
        x.play(0L, 64);
        for (int second = 0; second < 64; second++) {
            boolean asked = second % 2 == 0;
            Due.is("P9 all seconds: way 15 in " + second, x.owner(15, second), asked ? 7 : -1);
            Due.is("P9 all seconds: way 0 in " + second, x.owner(0, second), second < 63 ? -1 : 3);
            Due.is("P9 all seconds: way 8 in " + second, x.owner(8, second), -1);
        }
        Due.is("P9 second 64 is never done", x.owner(0, 64), -1);
        Due.is("P9 now", x.owner(0, -1), 3);
    }

    private static void ownerGreatestUnit() {
        UnitThreads x = new UnitThreads(8);
        x.asks(7, 0, 15);
        x.asks(0, 0, 0);
        x.play(0L, 64);
        Due.is("P9 owned by the greatest unit", x.owner(15, 0), 7);
        Due.is("P9 owned by the least unit", x.owner(0, 0), 0);
        Due.is("P9 nobody asked for it", x.owner(7, 0), -1);
    }

    private static void ownerClosed() {
        UnitThreads x = new UnitThreads(1);
        x.asks(0, 0, 15);
        x.play(0L, 64);
        x.close();
        Due.is("P9 closed: now", x.owner(15, -1), -1);
        Due.is("P9 closed: then", x.owner(15, 0), 0);
        Due.is("P9 closed: not done", x.owner(15, 1), -1);
        Due.is("P9 closed: no such way", x.owner(16, 0), -1);
    }

    // Promise 10.

    private static void stateUnit() {
        for (int units = 1; units <= 8; units++) {
            UnitThreads x = new UnitThreads(units);
            for (int u : Edges.beyond(0, units - 1)) {
                Due.is("P10 no such unit: " + u, x.state(u), -1);
            }
            for (int u = 0; u < units; u++) {
                Due.is("P10 unit " + u, x.state(u), 3);
            }
        }
    }

    private static void stateUnitClosed() {
        for (int units = 1; units <= 8; units++) {
            UnitThreads x = new UnitThreads(units);
            x.close();
            for (int u : Edges.beyond(0, units - 1)) {
                Due.is("P10 no such unit, closed: " + u, x.state(u), -1);
            }
            for (int u = 0; u < units; u++) {
                Due.is("P10 closed: unit " + u, x.state(u), 4);
            }
        }
    }

    /** Unit 0 is on, 1 waits, 2 is held, 3 has ended. */
    private static UnitThreads eachKind() {
        UnitThreads x = new UnitThreads(4);
        x.asks(0, 0, 15);
        x.step(0, 0, 0, 7L);
        x.step(0, 200, 0, 8L);
        x.asks(1, 0, 15);
        x.throwsAt(2, 0);
        x.step(3, 0, 12, 9L);
        x.play(0L, 1);
        return x;
    }

    private static void stateOfEachKind() {
        UnitThreads x = eachKind();
        for (int u = 0; u < 4; u++) {
            Due.is("P10 each kind: unit " + u, x.state(u), u);
        }
        x.close();
        for (int u = 0; u < 4; u++) {
            Due.is("P10 each kind, closed: unit " + u, x.state(u), 4);
        }
    }

    private static void stateBehindWaiting() {
        UnitThreads x = new UnitThreads(2);
        x.asks(0, 0, 15);
        x.asks(1, 0, 15);
        x.step(1, 1, 4, 1L);
        x.bar(15, 0);
        x.play(0L, 1);
        Due.is("P10 the way is barred: it waits", x.state(0), 1);
        Due.is("P10 so does the other", x.state(1), 1);
        x.asks(0, 1, 15);
        x.play(0L, 1);
        Due.is("P10 it got the way: on", x.state(0), 0);
        Due.is("P10 the other waits still", x.state(1), 1);
        x.play(0L, 1);
        Due.is("P10 given back in this second: ended", x.state(0), 3);
        Due.is("P10 not free before its end: the other waits", x.state(1), 1);
        x.play(0L, 1);
        Due.is("P10 the other got it: on", x.state(1), 0);
        x.play(0L, 1);
        Due.is("P10 the other has ended", x.state(1), 3);
    }

    // Promise 11.

    private static UnitThreads allHeld(int units) {
        UnitThreads x = new UnitThreads(units);
        for (int u = 0; u < units; u++) {
            x.throwsAt(u, 0);
        }
        x.play(0L, 64);
        return x;
    }

    private static void restartUnit() {
        for (int units = 1; units <= 8; units++) {
            UnitThreads x = allHeld(units);
            for (int u : Edges.beyond(0, units - 1)) {
                Due.no("P11 no such unit: " + u, x.restart(u));
            }
            Due.is("P11 no such unit: none is on", x.count(3), 0);
            Due.yes("P11 the greatest unit", x.restart(units - 1));
            Due.is("P11 one is on", x.count(3), 1);
            Due.is("P11 it is the greatest", x.state(units - 1), 0);
            Due.is("P11 the least", x.restart(0) ? 1 : 0, units == 1 ? 0 : 1);
            Due.is("P11 both are on", x.count(3), units == 1 ? 1 : 2);
        }
    }

    private static void restartOneThatIsNotHeld() {
        UnitThreads x = eachKind();
        Due.no("P11 it is on", x.restart(0));
        Due.no("P11 it waits", x.restart(1));
        Due.no("P11 it has ended", x.restart(3));
        Due.is("P11 it is on still", x.state(0), 0);
        Due.is("P11 it waits still", x.state(1), 1);
        Due.is("P11 it has ended still", x.state(3), 3);
        x = new UnitThreads(1);
        Due.no("P11 nothing told", x.restart(0));
        x.throwsAt(0, 0);
        Due.no("P11 it has a throw, but is not held yet", x.restart(0));
        x.play(0L, 1);
        Due.is("P11 a refused restart takes no throw away", x.state(0), 2);
    }

    private static void restartTwice() {
        UnitThreads x = allHeld(2);
        Due.yes("P11 held", x.restart(1));
        Due.no("P11 it is on", x.restart(1));
        x.play(0L, 64);
        Due.no("P11 it has ended", x.restart(1));
        Due.yes("P11 the other is held still", x.restart(0));
    }

    private static void restartInItsOwnSecond() {
        UnitThreads x = new UnitThreads(1);
        x.throwsAt(0, 2);
        x.step(0, 2, 0, 5L);
        x.play(0L, 64);
        x.restart(0);
        Due.is("P11 its own second stays", x.count(4), 2);
        Due.is("P11 it throws no more: one second, and it has ended", x.play(0L, 64), 1);
        Due.is("P11 its steps are done", x.output(0, 3), 5L);
        Due.is("P11 what came of it", x.log(3, 2), 0);
        Due.is("P11 it has ended", x.state(0), 3);
    }

    private static void restartClosed() {
        UnitThreads x = allHeld(1);
        x.close();
        Due.no("P11 closed", x.restart(0));
        Due.no("P11 closed and no such unit", x.restart(1));
        Due.is("P11 closed still", x.state(0), 4);
    }

    // Promise 12.

    private static void heldUnit() {
        for (int units = 1; units <= 8; units++) {
            UnitThreads x = allHeld(units);
            for (int u : Edges.beyond(0, units - 1)) {
                Due.is("P12 no such unit: " + u, x.held(u), -1);
            }
            for (int u = 0; u < units; u++) {
                Due.is("P12 held in second 0: unit " + u, x.held(u), 0);
            }
        }
    }

    private static void heldOneThatIsNotHeld() {
        UnitThreads x = eachKind();
        Due.is("P12 it is on", x.held(0), -1);
        Due.is("P12 it waits", x.held(1), -1);
        Due.is("P12 it is held", x.held(2), 0);
        Due.is("P12 it has ended", x.held(3), -1);
        x.restart(2);
        Due.is("P12 it was restarted", x.held(2), -1);
        x.play(0L, 1);
        Due.is("P12 it has ended behind its restart", x.held(2), -1);
        Due.is("P12 nothing told", new UnitThreads(1).held(0), -1);
    }

    private static void heldInTheNewestSecond() {
        UnitThreads x = new UnitThreads(1);
        x.throwsAt(0, 1);
        x.throwsAt(0, 62);
        x.play(0L, 64);
        Due.is("P12 held in its first", x.held(0), 1);
        x.play(0L, 64);
        Due.is("P12 no second passes with all held", x.held(0), 1);
        x.restart(0);
        Due.is("P12 up to the last second", x.play(0L, 64), 62);
        Due.is("P12 held in the last second of the house", x.held(0), 63);
        Due.is("P12 its own second is less", x.count(4), 62);
    }

    private static void heldClosed() {
        UnitThreads x = allHeld(2);
        x.close();
        Due.is("P12 closed: it is not held", x.held(1), -1);
        Due.is("P12 closed: no such unit", x.held(2), -1);
    }

    // Promise 14.

    private static void countWhat() {
        for (int units = 1; units <= 8; units++) {
            UnitThreads x = new UnitThreads(units);
            for (int what : Edges.beyond(0, 11)) {
                Due.is("P14 another what: " + what, x.count(what), -1);
            }
            for (int what = 0; what < 4; what++) {
                Due.is("P14 what " + what, x.count(what), 0);
            }
        }
    }

    private static void countOwnSecondOfNoUnit() {
        for (int units = 1; units <= 8; units++) {
            UnitThreads x = new UnitThreads(units);
            for (int u = 0; u < units; u++) {
                x.step(u, u, 4 * u, 1L);
            }
            x.play(0L, 64);
            for (int u = 0; u < 8; u++) {
                boolean there = u < units;
                Due.is("P14 " + units + " units: own second of " + u, x.count(4 + u),
                        there ? u + 1 : -1);
            }
            Due.is("P14 one beyond the greatest what", x.count(12), -1);
        }
    }

    private static void countNothingTold() {
        UnitThreads x = new UnitThreads(8);
        for (int what = 0; what <= 11; what++) {
            Due.is("P14 nothing told: " + what, x.count(what), 0);
        }
    }

    private static void countAsMuchAsThereMayBe() {
        UnitThreads x = new UnitThreads(8);
        for (int i = 0; i < 300; i++) {
            x.step(i % 8, 200, i % 8 * 4, 1L);
        }
        Due.is("P14 units that are on: all", x.count(3), 8);
        x.play(0L, 64);
        Due.is("P14 seconds: 64", x.count(0), 64);
        Due.is("P14 turns: 512", x.count(1), 512);
        Due.is("P14 entries: 300", x.count(2), 300);
        Due.is("P14 units that are on still: all", x.count(3), 8);
        Due.is("P14 own second of the first: 64", x.count(4), 64);
        Due.is("P14 own second of the last: 64", x.count(11), 64);
    }

    private static void countClosed() {
        UnitThreads x = eachKind();
        Due.is("P14 one is on, one waits", x.count(3), 2);
        x.close();
        Due.is("P14 closed: seconds", x.count(0), 1);
        Due.is("P14 closed: turns", x.count(1), 4);
        Due.is("P14 closed: entries", x.count(2), 6);
        Due.is("P14 closed: none is on or waits", x.count(3), 0);
        Due.is("P14 closed: own second of the first", x.count(4), 1);
        Due.is("P14 closed: own second of one that waited", x.count(5), 0);
        Due.is("P14 closed: own second of no unit", x.count(8), -1);
    }

    // Promise 15.

    private static void closeNothingTold() {
        for (int units = 1; units <= 8; units++) {
            UnitThreads x = new UnitThreads(units);
            Due.is("P15 nothing told: none was on", x.close(), 0);
            Due.is("P15 nothing told: closed all the same", x.state(units - 1), 4);
            Due.is("P15 nothing told: closed again", x.close(), 0);
        }
    }

    private static void closeAllEnded() {
        UnitThreads x = new UnitThreads(2);
        x.step(0, 0, 0, 5L);
        x.step(1, 1, 4, 6L);
        x.play(0L, 64);
        Due.is("P15 all have ended", x.close(), 0);
        Due.is("P15 all have ended: safe all the same", x.output(0, -1), 0L);
        Due.is("P15 all have ended: closed all the same", x.state(1), 4);
    }

    private static void closeEachKind() {
        Due.is("P15 one is on, one waits, one is held", eachKind().close(), 3);
        UnitThreads x = new UnitThreads(1);
        x.step(0, 0, 0, 1L);
        Due.is("P15 one is on", x.close(), 1);
        x = new UnitThreads(1);
        x.asks(0, 0, 0);
        x.bar(0, 0);
        x.play(0L, 1);
        Due.is("P15 one waits", x.close(), 1);
        Due.is("P15 one is held", allHeld(1).close(), 1);
        x = allHeld(1);
        x.restart(0);
        Due.is("P15 one was restarted", x.close(), 1);
        x = allHeld(1);
        x.restart(0);
        x.play(0L, 64);
        Due.is("P15 one was restarted and has ended", x.close(), 0);
    }

    private static void closeAllEight() {
        Due.is("P15 all eight are held", allHeld(8).close(), 8);
        UnitThreads x = new UnitThreads(8);
        for (int u = 0; u < 8; u++) {
            x.step(u, 200, 4 * u, 1L);
        }
        x.play(0L, 64);
        Due.is("P15 all eight are on", x.close(), 8);
    }

    private static void closeTwice() {
        UnitThreads x = eachKind();
        x.safe(0, 5L);
        x.close();
        for (int i = 0; i < 3; i++) {
            Due.is("P15 it was closed", x.close(), 0);
            Due.is("P15 it was closed: the value stays", x.output(0, -1), 5L);
            Due.is("P15 it was closed: the state stays", x.state(0), 4);
        }
    }

    private static void closeOutputsAndWays() {
        UnitThreads x = new UnitThreads(8);
        for (int k = 0; k < 32; k++) {
            x.step(k / 4, 0, k, 9L);
            x.safe(k, k == 0 ? Long.MIN_VALUE : k == 31 ? Long.MAX_VALUE : k);
        }
        for (int way = 0; way < 16; way++) {
            x.asks(way / 2, 0, way);
        }
        x.play(0L, 64);
        Due.is("P15 the first way was owned", x.owner(0, -1), 0);
        Due.is("P15 the last way was owned", x.owner(15, -1), 7);
        x.close();
        for (int k = 0; k < 32; k++) {
            Due.is("P15 safe value of " + k, x.output(k, -1),
                    k == 0 ? Long.MIN_VALUE : k == 31 ? Long.MAX_VALUE : k);
            Due.is("P15 the past stays: " + k, x.output(k, 0), 9L);
        }
        for (int way = 0; way < 16; way++) {
            Due.is("P15 no way is owned: " + way, x.owner(way, -1), -1);
            Due.is("P15 the past stays: way " + way, x.owner(way, 0), way / 2);
        }
    }
}

/** Promises 8 to 12, 14 and 15: what can be seen, restart and close. */
public final class LookingTest {
    public static void main(String[] args) {
        outputOfEachSecond();
        outputRefused();
        ownerOfEachSecond();
        ownerRefused();
        stateOfAUnit();
        stateRefused();
        restartOrdinary();
        restartRefused();
        heldOrdinary();
        heldRefused();
        countOrdinary();
        countRefused();
        closeOrdinary();
        closeKeepsThePast();
        closeTwice();
        Due.end();
    }

    private static void outputOfEachSecond() {
        UnitThreads x = new UnitThreads(2);
        x.step(1, 0, 7, 5L);
        x.step(1, 2, 7, 6L);
        x.safe(7, 77L);
        x.throwsAt(1, 3);
        x.play(0L, 64);
        long[] due = {5L, 5L, 6L, 77L};
        for (int s = 0; s < due.length; s++) {
            Due.is("P8 second " + s, x.output(7, s), due[s]);
        }
        Due.is("P8 now", x.output(7, -1), 77L);
        Due.is("P8 not done", x.output(7, 4), 0L);
        Due.is("P8 its neighbour", x.output(6, 2), 0L);
        Due.is("P8 its neighbour in the next second", x.output(0, 3), 0L);
    }

    private static void outputRefused() {
        UnitThreads x = new UnitThreads(2);
        for (int k = 0; k < 8; k++) {
            x.step(k / 4, 0, k, 9L);
            x.step(k / 4, 1, k, 9L);
        }
        x.play(0L, 64);
        int[] none = {-1, 8, 31, 32, Integer.MIN_VALUE, Integer.MAX_VALUE};
        for (int k : none) {
            Due.is("P8 no output " + k, x.output(k, -1), 0L);
            Due.is("P8 no output then " + k, x.output(k, 0), 0L);
        }
        int[] notDone = {-2, 2, 63, 64, 65, Integer.MIN_VALUE, Integer.MAX_VALUE};
        for (int s : notDone) {
            Due.is("P8 not done " + s, x.output(0, s), 0L);
        }
        Due.is("P8 the last", x.output(7, 1), 9L);
    }

    private static void ownerOfEachSecond() {
        UnitThreads x = new UnitThreads(2);
        x.asks(1, 1, 15);
        x.asks(1, 3, 15);
        x.asks(0, 2, 15);
        x.play(0L, 64);
        int[] due = {-1, 1, 1, -1, 0};
        for (int s = 0; s < due.length; s++) {
            Due.is("P9 second " + s, x.owner(15, s), due[s]);
        }
        Due.is("P9 now", x.owner(15, -1), 0);
        Due.is("P9 not done", x.owner(15, 5), -1);
        Due.is("P9 its neighbour", x.owner(14, 1), -1);
        Due.is("P9 its neighbour in the next second", x.owner(0, 2), -1);
    }

    private static void ownerRefused() {
        UnitThreads x = new UnitThreads(1);
        for (int way = 0; way < 16; way++) {
            x.asks(0, 0, way);
        }
        x.play(0L, 64);
        int[] none = {-1, 16, 17, Integer.MIN_VALUE, Integer.MAX_VALUE};
        for (int way : none) {
            Due.is("P9 no way " + way, x.owner(way, -1), -1);
            Due.is("P9 no way then " + way, x.owner(way, 0), -1);
        }
        int[] notDone = {-2, 1, 63, 64, Integer.MIN_VALUE, Integer.MAX_VALUE};
        for (int s : notDone) {
            Due.is("P9 not done " + s, x.owner(0, s), -1);
        }
        Due.is("P9 all are owned", x.owner(15, 0), 0);
    }

    private static void stateOfAUnit() {
        UnitThreads x = new UnitThreads(3);
        Due.is("P10 no entries", x.state(0), 3);
        x.asks(0, 0, 0);
        x.asks(1, 0, 0);
        x.asks(0, 1, 0);
        x.throwsAt(2, 1);
        Due.is("P10 on", x.state(0), 0);
        x.play(0L, 1);
        Due.is("P10 on still", x.state(0), 0);
        Due.is("P10 waits", x.state(1), 1);
        Due.is("P10 on before its throw", x.state(2), 0);
        x.play(0L, 1);
        Due.is("P10 ended", x.state(0), 3);
        Due.is("P10 waits still", x.state(1), 1);
        Due.is("P10 held", x.state(2), 2);
        x.step(1, 1, 4, 1L);
        x.play(0L, 1);
        Due.is("P10 on after waiting", x.state(1), 0);
        x.play(0L, 1);
        Due.is("P10 ended too", x.state(1), 3);
        Due.yes("P10 told again", x.asks(1, 9, 5));
        Due.is("P10 on again", x.state(1), 0);
        x.close();
        for (int u = 0; u < 3; u++) {
            Due.is("P10 closed", x.state(u), 4);
        }
    }

    private static void stateRefused() {
        UnitThreads x = new UnitThreads(3);
        int[] none = {-1, 3, 7, 8, Integer.MIN_VALUE, Integer.MAX_VALUE};
        for (int u : none) {
            Due.is("P10 no unit " + u, x.state(u), -1);
        }
        x.close();
        for (int u : none) {
            Due.is("P10 no unit, closed " + u, x.state(u), -1);
        }
    }

    private static void restartOrdinary() {
        UnitThreads x = new UnitThreads(2);
        x.step(0, 1, 0, 3L);
        x.step(0, 2, 1, 4L);
        x.throwsAt(0, 1);
        x.throwsAt(0, 2);
        x.safe(0, -1L);
        x.play(0L, 64);
        Due.is("P11 held", x.state(0), 2);
        Due.yes("P11 restart", x.restart(0));
        Due.is("P11 on", x.state(0), 0);
        Due.is("P11 in its own second", x.count(4), 1);
        Due.is("P11 its outputs stay safe", x.output(0, -1), -1L);
        x.play(0L, 1);
        Due.is("P11 it throws no more", x.state(0), 0);
        Due.is("P11 step", x.output(0, -1), 3L);
        x.play(0L, 1);
        Due.is("P11 it throws in the next", x.state(0), 2);
        Due.yes("P11 restart anew", x.restart(0));
        x.play(0L, 64);
        Due.is("P11 ended", x.state(0), 3);
        Due.is("P11 last step", x.output(1, -1), 4L);
    }

    private static void restartRefused() {
        UnitThreads x = new UnitThreads(4);
        x.throwsAt(0, 0);
        x.asks(1, 0, 0);
        x.bar(0, 0);
        x.step(2, 5, 8, 1L);
        Due.no("P11 before its throw", x.restart(0));
        x.play(0L, 1);
        Due.no("P11 waits", x.restart(1));
        Due.no("P11 on", x.restart(2));
        Due.no("P11 ended", x.restart(3));
        Due.no("P11 -1", x.restart(-1));
        Due.no("P11 4", x.restart(4));
        Due.no("P11 the greatest", x.restart(Integer.MAX_VALUE));
        Due.is("P11 waits still", x.state(1), 1);
        Due.yes("P11 held", x.restart(0));
        Due.no("P11 no more", x.restart(0));
        x.throwsAt(2, 1);
        x.play(0L, 1);
        Due.is("P11 held too", x.state(2), 2);
        x.close();
        Due.no("P11 closed", x.restart(2));
        Due.is("P11 closed still", x.state(2), 4);
    }

    private static void heldOrdinary() {
        UnitThreads x = new UnitThreads(3);
        x.throwsAt(0, 0);
        x.throwsAt(1, 2);
        x.throwsAt(0, 1);
        x.step(2, 20, 8, 1L);
        Due.is("P12 not yet", x.held(0), -1);
        x.play(0L, 5);
        Due.is("P12 in second 0", x.held(0), 0);
        Due.is("P12 in second 2", x.held(1), 2);
        Due.is("P12 on", x.held(2), -1);
        x.restart(0);
        Due.is("P12 restarted", x.held(0), -1);
        x.play(0L, 2);
        Due.is("P12 the second of the house, not its own", x.held(0), 6);
        x.close();
        Due.is("P12 closed", x.held(0), -1);
    }

    private static void heldRefused() {
        UnitThreads x = new UnitThreads(1);
        x.throwsAt(0, 0);
        x.play(0L, 1);
        int[] none = {-1, 1, 8, Integer.MIN_VALUE, Integer.MAX_VALUE};
        for (int u : none) {
            Due.is("P12 no unit " + u, x.held(u), -1);
        }
        Due.is("P12 the only one", x.held(0), 0);
    }

    private static void countOrdinary() {
        UnitThreads x = new UnitThreads(4);
        x.asks(0, 0, 0);
        x.asks(1, 0, 0);
        x.throwsAt(2, 1);
        x.step(0, 3, 0, 1L);
        Due.is("P14 entries", x.count(2), 4);
        Due.is("P14 on or waiting", x.count(3), 3);
        x.play(0L, 3);
        Due.is("P14 seconds", x.count(0), 3);
        Due.is("P14 turns", x.count(1), 8);
        Due.is("P14 entries stay", x.count(2), 4);
        Due.is("P14 one on, one waiting", x.count(3), 2);
        int[] own = {3, 0, 1, 0};
        for (int u = 0; u < own.length; u++) {
            Due.is("P14 own second of " + u, x.count(4 + u), own[u]);
        }
        x.close();
        Due.is("P14 seconds, closed", x.count(0), 3);
        Due.is("P14 turns, closed", x.count(1), 8);
        Due.is("P14 entries, closed", x.count(2), 4);
        Due.is("P14 on or waiting, closed", x.count(3), 0);
        Due.is("P14 own second, closed", x.count(4), 3);
    }

    private static void countRefused() {
        int[] none = {-1, -4, 12, 13, Integer.MIN_VALUE, Integer.MIN_VALUE + 3,
            Integer.MIN_VALUE + 4, Integer.MAX_VALUE};
        for (int units = 1; units <= 8; units++) {
            UnitThreads x = new UnitThreads(units);
            for (int what : none) {
                Due.is("P14 what " + what, x.count(what), -1);
            }
            for (int what = 4; what < 12; what++) {
                Due.is("P14 what " + what, x.count(what), what - 4 < units ? 0 : -1);
            }
        }
    }

    private static void closeOrdinary() {
        UnitThreads x = new UnitThreads(5);
        x.asks(0, 0, 0);
        x.step(0, 9, 0, 5L);
        x.asks(1, 0, 0);
        x.throwsAt(2, 0);
        x.step(3, 0, 12, 6L);
        x.safe(12, 66L);
        x.play(0L, 1);
        Due.is("P15 value", x.output(12, -1), 6L);
        Due.is("P15 on, waiting and held", x.close(), 3);
        for (int k = 0; k < 20; k++) {
            Due.is("P15 safe now", x.output(k, -1), k == 12 ? 66L : 0L);
        }
        for (int way = 0; way < 16; way++) {
            Due.is("P15 owned by nobody", x.owner(way, -1), -1);
        }
        for (int u = 0; u < 5; u++) {
            Due.is("P15 closed", x.state(u), 4);
        }
    }

    private static void closeKeepsThePast() {
        UnitThreads x = new UnitThreads(1);
        x.asks(0, 0, 3);
        x.step(0, 0, 2, 5L);
        x.safe(2, 55L);
        x.play(0L, 1);
        x.close();
        Due.is("P15 the value then", x.output(2, 0), 5L);
        Due.is("P15 the owner then", x.owner(3, 0), 0);
        Due.is("P15 the value now", x.output(2, -1), 55L);
        Due.is("P15 the owner now", x.owner(3, -1), -1);
        Due.is("P15 a second that was not done", x.output(2, 1), 0L);
        Due.is("P15 seconds", x.count(0), 1);
    }

    private static void closeTwice() {
        UnitThreads x = new UnitThreads(8);
        for (int u = 0; u < 8; u++) {
            x.step(u, u, 4 * u, 1L);
        }
        Due.is("P15 eight", x.close(), 8);
        Due.is("P15 none", x.close(), 0);
        Due.is("P15 none again", x.close(), 0);
    }
}

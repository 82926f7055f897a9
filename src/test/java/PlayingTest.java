/** Promises 7 and 13, and the terms of a second of the house: turns, their order, the end. */
public final class PlayingTest {
    public static void main(String[] args) {
        playCounts();
        playRefused();
        playEndsAtSixtyFour();
        playWithoutActors();
        leastAskerGetsTheWay();
        givenBackIsFreeInTheNextSecond();
        partOfWhatWasAsked();
        throwerKeepsWhatItOwns();
        entriesWhileWaiting();
        orderOfEightUnits();
        orderOfFewerUnits();
        eachPlayHasItsSeed();
        seedChangesOnlyTheLog();
        logOutcomes();
        logRefused();
        Due.end();
    }

    private static void playCounts() {
        UnitThreads x = new UnitThreads(2);
        x.step(0, 4, 0, 1L);
        x.step(1, 1, 4, 1L);
        Due.is("P7 none", x.play(0L, 0), 0);
        Due.is("P7 still none", x.count(0), 0);
        Due.is("P7 one", x.play(0L, 1), 1);
        Due.is("P7 two", x.play(0L, 2), 2);
        Due.is("P7 until all have ended", x.play(0L, 64), 2);
        Due.is("P7 all have ended", x.play(0L, 64), 0);
        Due.is("P7 in all", x.count(0), 5);
        Due.is("P7 turns", x.count(1), 7);
    }

    private static void playRefused() {
        UnitThreads x = new UnitThreads(1);
        x.step(0, 0, 0, 1L);
        Due.is("P7 -1", x.play(0L, -1), -1);
        Due.is("P7 65", x.play(0L, 65), -1);
        Due.is("P7 the least", x.play(0L, Integer.MIN_VALUE), -1);
        Due.is("P7 the greatest", x.play(0L, Integer.MAX_VALUE), -1);
        Due.is("P7 nothing was done", x.count(0), 0);
        x.close();
        Due.is("P7 closed", x.play(0L, 1), -1);
        Due.is("P7 closed, none", x.play(0L, 0), -1);
        Due.is("P7 closed, nothing done", x.count(0), 0);
    }

    private static void playEndsAtSixtyFour() {
        UnitThreads x = new UnitThreads(8);
        for (int u = 0; u < 8; u++) {
            x.step(u, 200, 4 * u, 1L);
        }
        x.step(7, 63, 31, 9L);
        Due.is("P7 60", x.play(0L, 60), 60);
        Due.is("P7 4 left", x.play(0L, 64), 4);
        Due.is("P7 none left", x.play(0L, 64), 0);
        Due.is("P7 64 in all", x.count(0), 64);
        Due.is("P7 512 turns", x.count(1), 512);
        Due.is("P7 still on", x.count(3), 8);
        Due.is("P7 the last second's step", x.output(31, 63), 9L);
        Due.is("P7 before it", x.output(31, 62), 0L);
        Due.is("P7 own second", x.count(11), 64);
        Due.is("P13 the last turn", x.log(511, 0), 63);
        Due.is("P13 behind it", x.log(512, 0), -1);
        Due.no("P6 nothing left to bar", x.bar(0, 63));
    }

    private static void playWithoutActors() {
        UnitThreads x = new UnitThreads(2);
        Due.is("P7 no entries", x.play(0L, 64), 0);
        x.throwsAt(0, 0);
        Due.is("P7 until it is held", x.play(0L, 64), 1);
        Due.is("P7 held alone", x.play(0L, 64), 0);
        x.restart(0);
        Due.is("P7 restarted", x.play(0L, 64), 1);
        x.asks(0, 1, 0);
        x.play(0L, 1);
        x.asks(1, 0, 0);
        Due.is("P7 waits for ever", x.play(0L, 10), 10);
        Due.is("P7 waits", x.state(1), 1);
    }

    private static void leastAskerGetsTheWay() {
        for (long seed = 0; seed < 6; seed++) {
            UnitThreads x = new UnitThreads(3);
            x.asks(2, 0, 8);
            x.asks(1, 0, 8);
            x.step(0, 0, 0, 1L);
            x.play(seed, 1);
            Due.is("P7 the least that asked", x.owner(8, -1), 1);
            Due.is("P7 goes on", x.state(1), 3);
            Due.is("P7 waits", x.state(2), 1);
            x.asks(0, 1, 8);
            x.play(seed, 1);
            Due.is("P7 an owner stays", x.owner(8, -1), 1);
            Due.is("P7 waits too", x.state(0), 1);
        }
    }

    private static void givenBackIsFreeInTheNextSecond() {
        UnitThreads x = new UnitThreads(2);
        x.asks(0, 0, 1);
        x.asks(0, 1, 1);
        x.asks(1, 0, 1);
        x.play(5L, 64);
        Due.is("P7 second 0", x.owner(1, 0), 0);
        Due.is("P7 second 1", x.owner(1, 1), -1);
        Due.is("P7 second 2", x.owner(1, 2), 1);
        Due.is("P7 seconds", x.count(0), 3);
    }

    private static void partOfWhatWasAsked() {
        UnitThreads x = new UnitThreads(2);
        x.asks(1, 0, 9);
        x.asks(1, 1, 3);
        x.asks(1, 1, 9);
        x.asks(1, 1, 4);
        x.step(1, 1, 4, 6L);
        x.bar(4, 1);
        x.bar(4, 2);
        x.play(0L, 2);
        Due.is("P7 what it got it owns", x.owner(3, -1), 1);
        Due.is("P7 what was barred it does not", x.owner(4, -1), -1);
        Due.is("P7 nothing is given back before it goes on", x.owner(9, -1), 1);
        Due.is("P7 no step", x.output(4, -1), 0L);
        Due.is("P7 own second", x.count(5), 1);
        x.asks(0, 0, 3);
        x.play(0L, 1);
        Due.is("P7 it owns it still", x.owner(3, -1), 1);
        Due.is("P7 so the lesser one waits", x.state(0), 1);
        x.play(0L, 1);
        Due.is("P7 all it asked for", x.owner(4, -1), 1);
        Due.is("P7 given back", x.owner(9, -1), -1);
        Due.is("P7 step", x.output(4, -1), 6L);
        Due.is("P7 ended", x.state(1), 3);
    }

    private static void throwerKeepsWhatItOwns() {
        UnitThreads x = new UnitThreads(2);
        x.asks(0, 0, 2);
        x.throwsAt(0, 1);
        x.asks(0, 1, 2);
        x.asks(1, 1, 2);
        x.play(0L, 5);
        Due.is("P7 kept while held", x.owner(2, -1), 0);
        Due.is("P7 the other waits", x.state(1), 1);
        x.restart(0);
        x.play(0L, 1);
        Due.is("P7 given back after the restart", x.owner(2, -1), -1);
        x.play(0L, 1);
        Due.is("P7 the other's", x.owner(2, -1), 1);
    }

    private static void entriesWhileWaiting() {
        UnitThreads x = new UnitThreads(2);
        x.asks(0, 0, 0);
        x.asks(1, 0, 0);
        x.play(0L, 2);
        Due.yes("P2 a step while it waits", x.step(1, 0, 5, 3L));
        Due.yes("P4 a throw while it waits", x.throwsAt(1, 0));
        Due.is("P10 it waits still", x.state(1), 1);
        x.play(0L, 1);
        Due.is("P10 held", x.state(1), 2);
        x.asks(0, 1, 0);
        x.play(0L, 1);
        Due.is("P7 a held one gets nothing", x.owner(0, -1), -1);
        x.restart(1);
        Due.is("P10 on, not waiting", x.state(1), 0);
        x.play(0L, 1);
        Due.is("P7 it asks again", x.owner(0, -1), 1);
        Due.is("P7 its step", x.output(5, -1), 3L);
    }

    private static void dueOrder(String what, UnitThreads x, int from, int[] units) {
        for (int i = 0; i < units.length; i++) {
            Due.is(what + ", turn " + (from + i), x.log(from + i, 1), units[i]);
        }
    }

    private static UnitThreads eightUnits() {
        UnitThreads x = new UnitThreads(8);
        for (int u = 0; u < 8; u++) {
            x.step(u, 2, 4 * u, 1L);
        }
        return x;
    }

    private static void orderOfEightUnits() {
        UnitThreads x = eightUnits();
        x.play(7L, 3);
        dueOrder("P13 seed 7", x, 0, new int[] {6, 4, 3, 5, 1, 7, 0, 2});
        dueOrder("P13 seed 7", x, 8, new int[] {3, 1, 2, 0, 4, 7, 6, 5});
        dueOrder("P13 seed 7", x, 16, new int[] {5, 2, 0, 3, 1, 6, 4, 7});
        x = eightUnits();
        x.play(-1L, 2);
        dueOrder("P13 seed -1", x, 0, new int[] {0, 4, 2, 5, 1, 7, 6, 3});
        dueOrder("P13 seed -1", x, 8, new int[] {0, 1, 7, 4, 2, 5, 3, 6});
        x = eightUnits();
        x.play(Long.MIN_VALUE, 2);
        dueOrder("P13 least seed", x, 0, new int[] {7, 2, 4, 0, 3, 5, 1, 6});
        dueOrder("P13 least seed", x, 8, new int[] {0, 4, 5, 2, 6, 7, 1, 3});
    }

    private static void orderOfFewerUnits() {
        UnitThreads x = new UnitThreads(5);
        x.step(0, 0, 0, 1L);
        x.step(1, 2, 4, 1L);
        x.throwsAt(2, 1);
        x.step(3, 3, 12, 1L);
        x.play(5L, 64);
        dueOrder("P13 all but the one that has ended", x, 0, new int[] {0, 3, 1, 2});
        dueOrder("P13 without unit 0", x, 4, new int[] {2, 3, 1});
        dueOrder("P13 without the held one", x, 7, new int[] {3, 1});
        dueOrder("P13 the last", x, 9, new int[] {3});
        Due.is("P13 no more", x.log(10, 1), -1);
    }

    private static void eachPlayHasItsSeed() {
        UnitThreads x = new UnitThreads(3);
        for (int u = 0; u < 3; u++) {
            x.step(u, 20, 4 * u, 1L);
        }
        x.play(42L, 2);
        dueOrder("P7 seed 42", x, 0, new int[] {1, 0, 2});
        dueOrder("P7 its g goes on", x, 3, new int[] {0, 1, 2});
        x.play(43L, 1);
        dueOrder("P7 seed 43", x, 6, new int[] {1, 2, 0});
        x.play(42L, 0);
        x.play(42L, 1);
        dueOrder("P7 seed 42 anew", x, 9, new int[] {1, 0, 2});
    }

    private static void seedChangesOnlyTheLog() {
        for (long seed = -20; seed < 20; seed++) {
            UnitThreads x = new UnitThreads(4);
            for (int u = 0; u < 4; u++) {
                x.asks(u, 0, 0);
                x.asks(u, 0, u);
                x.step(u, 0, 4 * u, u + 1L);
                x.asks(u, 1, 0);
                x.asks(u, 1, u == 0 ? 9 : u);
            }
            Due.is("P7 seconds", x.play(seed, 64), 8);
            for (int u = 0; u < 4; u++) {
                Due.is("P7 done in", x.output(4 * u, 2 * u), u + 1L);
                Due.is("P7 not before", u == 0 ? 0L : x.output(4 * u, 2 * u - 1), 0L);
                Due.is("P7 way 0", x.owner(0, 2 * u), u);
            }
        }
    }

    private static void logOutcomes() {
        UnitThreads x = new UnitThreads(3);
        x.asks(1, 0, 1);
        x.asks(2, 0, 1);
        x.throwsAt(0, 0);
        x.play(42L, 2);
        int[][] due = {{0, 1, 0}, {0, 0, 2}, {0, 2, 1}, {1, 2, 1}};
        for (int k = 0; k < due.length; k++) {
            for (int what = 0; what < 3; what++) {
                Due.is("P13 turn " + k + ", " + what, x.log(k, what), due[k][what]);
            }
        }
        Due.is("P13 turns", x.count(1), due.length);
        x.close();
        Due.is("P13 stays behind the close", x.log(2, 2), 1);
    }

    private static void logRefused() {
        UnitThreads x = new UnitThreads(1);
        Due.is("P13 none yet", x.log(0, 0), -1);
        x.step(0, 0, 0, 1L);
        x.play(0L, 1);
        Due.is("P13 the first", x.log(0, 0), 0);
        Due.is("P13 -1", x.log(-1, 0), -1);
        Due.is("P13 1", x.log(1, 0), -1);
        Due.is("P13 the least", x.log(Integer.MIN_VALUE, 1), -1);
        Due.is("P13 the greatest", x.log(Integer.MAX_VALUE, 1), -1);
        Due.is("P13 what -1", x.log(0, -1), -1);
        Due.is("P13 what 3", x.log(0, 3), -1);
        Due.is("P13 what the greatest", x.log(0, Integer.MAX_VALUE), -1);
    }
}

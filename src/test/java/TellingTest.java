/** Promises 1 to 6: a new object, and what it is told. */
public final class TellingTest {
    public static void main(String[] args) {
        newObject();
        newObjectIsEmpty();
        stepOrdinary();
        stepsInTheOrderTold();
        stepWakesAnEndedUnit();
        stepRefused();
        asksOrdinary();
        asksByTheNumberOfLesserEntries();
        asksRefused();
        throwsAtOrdinary();
        throwsAtAgainInTheSameSecond();
        throwsAtRefused();
        threeHundredEntries();
        safeOrdinary();
        safeRefused();
        barOrdinary();
        barRefused();
        Due.end();
    }

    private static void newObject() {
        int[] told = {Integer.MIN_VALUE, -1, 0, 1, 2, 3, 7, 8, 9, 100, Integer.MAX_VALUE};
        int[] made = {1, 1, 1, 1, 2, 3, 7, 8, 8, 8, 8};
        for (int i = 0; i < told.length; i++) {
            UnitThreads x = new UnitThreads(told[i]);
            for (int u = 0; u < 10; u++) {
                boolean there = u < made[i];
                Due.is("P1 units " + told[i] + " state " + u, x.state(u), there ? 3 : -1);
                Due.is("P1 units " + told[i] + " own second " + u, x.count(4 + u), there ? 0 : -1);
            }
            int last = 4 * made[i] - 1;
            Due.yes("P1 last output", x.safe(last, 1L));
            Due.no("P1 behind the last output", x.safe(last + 1, 1L));
        }
    }

    private static void newObjectIsEmpty() {
        UnitThreads x = new UnitThreads(8);
        for (int k = 0; k < 32; k++) {
            Due.is("P1 output " + k, x.output(k, -1), 0L);
        }
        for (int way = 0; way < 16; way++) {
            Due.is("P1 owner " + way, x.owner(way, -1), -1);
        }
        for (int what = 0; what < 4; what++) {
            Due.is("P1 count " + what, x.count(what), 0);
        }
        Due.is("P1 close", x.close(), 0);
        Due.is("P1 safe value at first", x.output(31, -1), 0L);
    }

    private static void stepOrdinary() {
        UnitThreads x = new UnitThreads(2);
        Due.yes("P2 first", x.step(0, 0, 3, Long.MIN_VALUE));
        Due.yes("P2 second 2", x.step(0, 2, 0, 8L));
        Due.yes("P2 other unit", x.step(1, 1, 7, Long.MAX_VALUE));
        Due.is("P2 entries", x.count(2), 3);
        Due.is("P2 nothing yet", x.output(3, -1), 0L);
        Due.is("P2 play", x.play(1L, 1), 1);
        Due.is("P2 done", x.output(3, -1), Long.MIN_VALUE);
        Due.is("P2 not before its second", x.output(7, -1), 0L);
        Due.is("P2 play on", x.play(1L, 1), 1);
        Due.is("P2 done too", x.output(7, -1), Long.MAX_VALUE);
        Due.is("P2 a second without entries passes", x.output(0, -1), 0L);
        Due.is("P2 play to the end", x.play(1L, 9), 1);
        Due.is("P2 last", x.output(0, -1), 8L);
    }

    private static void stepsInTheOrderTold() {
        UnitThreads x = new UnitThreads(1);
        x.step(0, 1, 0, 50L);
        x.step(0, 0, 0, 5L);
        x.step(0, 0, 0, 3L);
        x.step(0, 0, 1, 4L);
        x.step(0, 0, 0, 4L);
        x.step(0, 1, 1, 9L);
        x.step(0, 1, 1, 8L);
        x.play(0L, 64);
        Due.is("P2 the last told of second 0", x.output(0, 0), 4L);
        Due.is("P2 another output", x.output(1, 0), 4L);
        Due.is("P2 second 1", x.output(0, 1), 50L);
        Due.is("P2 the last told of second 1", x.output(1, 1), 8L);
    }

    private static void stepWakesAnEndedUnit() {
        UnitThreads x = new UnitThreads(1);
        x.step(0, 0, 0, 1L);
        x.play(0L, 64);
        Due.is("P2 ended", x.state(0), 3);
        Due.no("P2 behind its own second", x.step(0, 0, 0, 2L));
        Due.yes("P2 in its own second", x.step(0, 1, 0, 2L));
        Due.is("P2 on again", x.state(0), 0);
        Due.is("P2 plays on", x.play(0L, 64), 1);
        Due.is("P2 value", x.output(0, -1), 2L);
    }

    private static void stepRefused() {
        UnitThreads x = new UnitThreads(2);
        Due.no("P2 unit -1", x.step(-1, 0, 0, 1L));
        Due.no("P2 unit -1, output -1", x.step(-1, 0, -1, 1L));
        Due.no("P2 unit -1, output -4", x.step(-1, 0, -4, 1L));
        Due.no("P2 unit 2", x.step(2, 0, 8, 1L));
        Due.no("P2 unit of the greatest number", x.step(Integer.MAX_VALUE, 0, 0, 1L));
        Due.no("P2 second -1", x.step(0, -1, 0, 1L));
        Due.no("P2 second 201", x.step(0, 201, 0, 1L));
        Due.no("P2 output -1", x.step(0, 0, -1, 1L));
        Due.no("P2 output 4 of unit 0", x.step(0, 0, 4, 1L));
        Due.no("P2 output 3 of unit 1", x.step(1, 0, 3, 1L));
        Due.no("P2 output 8", x.step(1, 0, 8, 1L));
        Due.is("P2 nothing was taken", x.count(2), 0);
        Due.is("P2 still ended", x.state(0), 3);
        Due.yes("P2 second 200", x.step(0, 200, 0, 1L));
        Due.yes("P2 output 4 of unit 1", x.step(1, 0, 4, 1L));
        Due.yes("P2 output 7 of unit 1", x.step(1, 0, 7, 1L));
        x.play(0L, 2);
        Due.no("P2 less than its own", x.step(0, 1, 0, 1L));
        Due.yes("P2 its own", x.step(0, 2, 0, 1L));
        x.close();
        Due.no("P2 closed", x.step(0, 9, 0, 1L));
        Due.is("P2 entries", x.count(2), 4);
    }

    private static void asksOrdinary() {
        UnitThreads x = new UnitThreads(2);
        Due.yes("P3 ask", x.asks(0, 0, 15));
        Due.yes("P3 give", x.asks(0, 2, 15));
        Due.yes("P3 ask again", x.asks(0, 3, 15));
        Due.yes("P3 another unit", x.asks(1, 0, 0));
        x.play(3L, 1);
        Due.is("P3 owned", x.owner(15, -1), 0);
        Due.is("P3 owned by the other", x.owner(0, -1), 1);
        x.play(3L, 1);
        Due.is("P3 still owned", x.owner(15, -1), 0);
        x.play(3L, 1);
        Due.is("P3 given back", x.owner(15, -1), -1);
        x.play(3L, 1);
        Due.is("P3 owned again", x.owner(15, -1), 0);
        Due.is("P3 an ended unit keeps its way", x.owner(0, -1), 1);
    }

    private static void asksByTheNumberOfLesserEntries() {
        UnitThreads x = new UnitThreads(2);
        // Told backwards: what an entry does hangs on the seconds, not on the order of telling.
        x.asks(0, 4, 5);
        x.asks(0, 3, 5);
        x.asks(0, 1, 5);
        x.asks(0, 0, 6);
        x.asks(1, 0, 7);
        x.play(0L, 64);
        int[] due = {-1, 0, 0, -1, 0};
        for (int s = 0; s < due.length; s++) {
            Due.is("P3 way 5 in second " + s, x.owner(5, s), due[s]);
        }
        Due.yes("P3 a second give", x.asks(0, 5, 5));
        x.play(0L, 64);
        Due.is("P3 given back again", x.owner(5, -1), -1);
        Due.is("P3 another way is not counted", x.owner(6, -1), 0);
        Due.is("P3 another unit is not counted", x.owner(7, -1), 1);
    }

    private static void asksRefused() {
        UnitThreads x = new UnitThreads(2);
        Due.no("P3 unit -1", x.asks(-1, 0, 0));
        Due.no("P3 unit 2", x.asks(2, 0, 0));
        Due.no("P3 second -1", x.asks(0, -1, 0));
        Due.no("P3 second 201", x.asks(0, 201, 0));
        Due.no("P3 way -1", x.asks(0, 0, -1));
        Due.no("P3 way 16", x.asks(0, 0, 16));
        Due.no("P3 way 32", x.asks(0, 0, 32));
        Due.is("P3 nothing was taken", x.count(2), 0);
        Due.yes("P3 second 200", x.asks(0, 200, 0));
        Due.yes("P3 way 0", x.asks(0, 1, 0));
        Due.no("P3 the same", x.asks(0, 1, 0));
        Due.yes("P3 another way", x.asks(0, 1, 1));
        Due.yes("P3 another second", x.asks(0, 2, 0));
        Due.yes("P3 another unit", x.asks(1, 1, 0));
        x.play(0L, 1);
        Due.no("P3 less than its own", x.asks(0, 0, 9));
        Due.yes("P3 its own", x.asks(0, 1, 9));
        x.close();
        Due.no("P3 closed", x.asks(0, 9, 9));
        Due.is("P3 entries", x.count(2), 6);
    }

    private static void throwsAtOrdinary() {
        UnitThreads x = new UnitThreads(2);
        x.step(0, 0, 0, 4L);
        x.step(0, 1, 0, 5L);
        x.asks(0, 1, 2);
        x.step(1, 3, 4, 6L);
        Due.yes("P4 throw", x.throwsAt(0, 1));
        x.play(0L, 1);
        Due.is("P4 not yet", x.state(0), 0);
        Due.is("P4 value", x.output(0, -1), 4L);
        x.play(0L, 1);
        Due.is("P4 held", x.state(0), 2);
        Due.is("P4 safe", x.output(0, -1), 0L);
        Due.is("P4 one that throws does not ask", x.owner(2, -1), -1);
        Due.is("P4 own second stays", x.count(4), 1);
        Due.is("P4 the others go on", x.play(0L, 64), 2);
        Due.is("P4 the other's value", x.output(4, -1), 6L);
    }

    private static void throwsAtAgainInTheSameSecond() {
        UnitThreads x = new UnitThreads(1);
        x.throwsAt(0, 0);
        x.step(0, 0, 0, 1L);
        Due.no("P4 one not thrown yet", x.throwsAt(0, 0));
        x.play(0L, 1);
        Due.is("P4 held", x.state(0), 2);
        Due.yes("P4 the first was thrown", x.throwsAt(0, 0));
        Due.no("P4 the second was not", x.throwsAt(0, 0));
        Due.yes("P4 restart", x.restart(0));
        Due.is("P4 a second", x.play(0L, 64), 1);
        Due.is("P4 held again", x.state(0), 2);
        Due.is("P4 held in", x.held(0), 1);
        Due.yes("P4 restart again", x.restart(0));
        Due.is("P4 the last second", x.play(0L, 64), 1);
        Due.is("P4 ended", x.state(0), 3);
        Due.is("P4 value", x.output(0, -1), 1L);
        Due.is("P4 thrown ones are entries still", x.count(2), 3);
    }

    private static void throwsAtRefused() {
        UnitThreads x = new UnitThreads(2);
        Due.no("P4 unit -1", x.throwsAt(-1, 0));
        Due.no("P4 unit 2", x.throwsAt(2, 0));
        Due.no("P4 second -1", x.throwsAt(0, -1));
        Due.no("P4 second 201", x.throwsAt(0, 201));
        Due.is("P4 nothing was taken", x.count(2), 0);
        Due.yes("P4 second 200", x.throwsAt(0, 200));
        Due.no("P4 the same", x.throwsAt(0, 200));
        Due.yes("P4 another second", x.throwsAt(0, 199));
        Due.yes("P4 another unit", x.throwsAt(1, 200));
        x.play(0L, 3);
        Due.no("P4 less than its own", x.throwsAt(0, 2));
        Due.yes("P4 its own", x.throwsAt(0, 3));
        x.close();
        Due.no("P4 closed", x.throwsAt(0, 9));
        Due.is("P4 entries", x.count(2), 4);
    }

    private static void threeHundredEntries() {
        UnitThreads x = new UnitThreads(2);
        for (int i = 0; i < 200; i++) {
            Due.yes("P2 entry " + i, x.step(0, 3, i % 4, i));
        }
        for (int i = 0; i < 99; i++) {
            Due.yes("P3 entry " + i, x.asks(1, i, 3));
        }
        Due.yes("P4 the 300th", x.throwsAt(1, 0));
        Due.is("P2 entries", x.count(2), 300);
        Due.no("P2 one more", x.step(0, 0, 0, 1L));
        Due.no("P3 one more", x.asks(0, 0, 0));
        Due.no("P4 one more", x.throwsAt(0, 0));
        Due.is("P2 entries still", x.count(2), 300);
        x.play(0L, 64);
        Due.is("P2 the last step", x.output(3, -1), 199L);
        Due.no("P2 entries that are done count too", x.step(0, 9, 0, 1L));
    }

    private static void safeOrdinary() {
        UnitThreads x = new UnitThreads(2);
        x.step(0, 0, 0, 10L);
        x.throwsAt(0, 1);
        x.step(1, 0, 4, 11L);
        Due.yes("P5 safe", x.safe(0, -7L));
        Due.yes("P5 safe anew", x.safe(0, -8L));
        Due.yes("P5 safe of the last of unit 0", x.safe(3, 33L));
        Due.yes("P5 safe of unit 1", x.safe(4, 44L));
        Due.is("P5 the output stays", x.output(0, -1), 0L);
        x.play(0L, 2);
        Due.is("P5 safe value", x.output(0, -1), -8L);
        Due.is("P5 each output of it", x.output(1, -1), 0L);
        Due.is("P5 each output of it, the last", x.output(3, -1), 33L);
        Due.is("P5 not of another unit", x.output(4, -1), 11L);
        Due.yes("P5 safe while held", x.safe(0, 100L));
        Due.is("P5 the output stays while held", x.output(0, -1), -8L);
        x.close();
        Due.is("P5 safe at the close", x.output(0, -1), 100L);
        Due.is("P5 safe at the close, unit 1", x.output(4, -1), 44L);
    }

    private static void safeRefused() {
        UnitThreads x = new UnitThreads(2);
        Due.no("P5 output -1", x.safe(-1, 1L));
        Due.no("P5 output 8", x.safe(8, 1L));
        Due.no("P5 the greatest", x.safe(Integer.MAX_VALUE, 1L));
        Due.no("P5 the least", x.safe(Integer.MIN_VALUE, 1L));
        Due.yes("P5 output 7", x.safe(7, 1L));
        x.close();
        Due.no("P5 closed", x.safe(7, 2L));
        Due.is("P5 unchanged", x.output(7, -1), 1L);
    }

    private static void barOrdinary() {
        UnitThreads x = new UnitThreads(2);
        x.asks(0, 0, 4);
        x.step(0, 0, 0, 1L);
        x.asks(1, 0, 5);
        Due.yes("P6 bar", x.bar(4, 0));
        Due.yes("P6 bar the next", x.bar(4, 1));
        Due.yes("P6 another way", x.bar(5, 3));
        x.play(0L, 1);
        Due.is("P6 barred", x.owner(4, -1), -1);
        Due.is("P6 it waits", x.state(0), 1);
        Due.is("P6 no step", x.output(0, -1), 0L);
        Due.is("P6 another way is free", x.owner(5, -1), 1);
        x.play(0L, 1);
        Due.is("P6 barred again", x.owner(4, -1), -1);
        x.play(0L, 1);
        Due.is("P6 free now", x.owner(4, -1), 0);
        Due.is("P6 step", x.output(0, -1), 1L);
        Due.yes("P6 a bar of an owned way", x.bar(4, 3));
        x.step(0, 1, 0, 2L);
        x.play(0L, 1);
        Due.is("P6 what is owned stays", x.owner(4, -1), 0);
        Due.is("P6 and hinders nothing", x.output(0, -1), 2L);
    }

    private static void barRefused() {
        UnitThreads x = new UnitThreads(1);
        Due.no("P6 way -1", x.bar(-1, 0));
        Due.no("P6 way 16", x.bar(16, 0));
        Due.no("P6 way 32", x.bar(32, 0));
        Due.no("P6 second -1", x.bar(0, -1));
        Due.no("P6 second 64", x.bar(0, 64));
        Due.yes("P6 second 63", x.bar(15, 63));
        Due.no("P6 barred then", x.bar(15, 63));
        Due.yes("P6 second 0", x.bar(0, 0));
        Due.yes("P6 another way", x.bar(1, 0));
        Due.no("P6 barred then too", x.bar(0, 0));
        x.step(0, 1, 0, 1L);
        x.play(0L, 64);
        Due.is("P6 seconds", x.count(0), 2);
        Due.no("P6 that second was done", x.bar(7, 1));
        Due.yes("P6 that was not", x.bar(7, 2));
        x.close();
        Due.no("P6 closed", x.bar(7, 3));
    }
}

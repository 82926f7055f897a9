import java.util.ArrayList;
import java.util.List;

/**
 * Terms: a refused call changes nothing. Each refused call is made on a house of which a twin
 * stands beside it that never hears of the call; then both are asked, played and closed alike.
 */
public final class RefusedTest {
    private static final int UNITS = 3;
    private static final int LEAST = Integer.MIN_VALUE;
    private static final int GREATEST = Integer.MAX_VALUE;

    private enum Scene { FRESH, BUSY, FULL, OVER, CLOSED }

    private interface Call {
        long answer(UnitThreads x);
    }

    private static Scene scene;
    private static List<String> twin;

    public static void main(String[] args) {
        for (Scene s : Scene.values()) {
            scene = s;
            twin = picture(house());
            sceneIsAsMeant();
            stepOutOfBounds();
            asksOutOfBounds();
            throwsAtOutOfBounds();
            safeOutOfBounds();
            barOutOfBounds();
            playOutOfBounds();
            restartOutOfBounds();
            looks();
            looksBeyond();
            asTold();
        }
        Due.end();
    }

    private static UnitThreads house() {
        UnitThreads x = new UnitThreads(UNITS);
        switch (scene) {
            case FRESH -> { }
            case BUSY -> busy(x);
            case FULL -> full(x);
            case OVER -> {
                busy(x);
                x.step(1, 200, 4, 1L);
                x.play(5L, 64);
            }
            default -> {
                busy(x);
                x.close();
            }
        }
        return x;
    }

    private static void sceneIsAsMeant() {
        UnitThreads x = house();
        boolean played = scene != Scene.FRESH;
        Due.is(scene + ": seconds", x.count(0), scene == Scene.OVER ? 64 : played ? 3 : 0);
        if (scene == Scene.FULL) {
            Due.is("FULL: entries", x.count(2), 300);
        }
        if (scene == Scene.BUSY) {
            for (int u = 0; u < UNITS; u++) {
                Due.is("BUSY: state of unit " + u, x.state(u), u);
                Due.is("BUSY: own second of unit " + u, x.count(4 + u), new int[] {3, 1, 2}[u]);
            }
        }
    }

    /** Three seconds were done; then unit 0 is on, 1 waits, 2 is held, and more is told ahead. */
    private static void busy(UnitThreads x) {
        x.asks(0, 0, 5);
        x.step(0, 2, 0, 11L);
        x.asks(1, 1, 5);
        x.step(1, 1, 4, 12L);
        x.step(2, 0, 8, 13L);
        x.throwsAt(2, 2);
        for (int k = 0; k < 4 * UNITS; k++) {
            x.safe(k, -k - 1L);
        }
        x.play(9L, 3);
        x.step(0, 3, 1, 14L);
        x.asks(0, 4, 5);
        x.asks(0, 4, 6);
        x.throwsAt(0, 6);
        x.asks(1, 2, 5);
        x.step(2, 2, 9, 15L);
        x.asks(2, 3, 6);
        x.bar(6, 4);
        x.bar(6, 63);
    }

    private static void full(UnitThreads x) {
        x.safe(0, 21L);
        for (int i = 0; i < 297; i++) {
            x.step(0, 3 + i % 7, i % 4, i);
        }
        x.asks(0, 3, 6);
        x.asks(1, 5, 6);
        x.throwsAt(2, 2);
        x.play(9L, 3);
    }

    /** All that can be seen now, and what comes of what the house is told from here on. */
    private static List<String> picture(UnitThreads x) {
        List<String> lines = new ArrayList<>();
        look(x, lines);
        for (int u = 0; u < UNITS; u++) {
            add(lines, "restart " + u, x.restart(u) ? 1 : 0);
        }
        int own = x.count(4);
        for (int way = 0; way < 16; way++) {
            add(lines, "asks " + way, x.asks(0, own, way) ? 1 : 0);
        }
        add(lines, "play", x.play(77L, 5));
        look(x, lines);
        int turns = x.count(1);
        for (int k = Math.max(0, turns - 6); k <= turns; k++) {
            for (int what = 0; what < 3; what++) {
                add(lines, "log of " + k, x.log(k, what));
            }
        }
        add(lines, "close", x.close());
        look(x, lines);
        return lines;
    }

    private static void look(UnitThreads x, List<String> lines) {
        for (int what = 0; what < 4 + UNITS; what++) {
            add(lines, "count " + what, x.count(what));
        }
        for (int u = 0; u < UNITS; u++) {
            add(lines, "state " + u, x.state(u));
            add(lines, "held " + u, x.held(u));
        }
        for (int k = 0; k < 4 * UNITS; k++) {
            add(lines, "output " + k, x.output(k, -1));
        }
        for (int way = 0; way < 16; way++) {
            add(lines, "owner " + way, x.owner(way, -1));
        }
    }

    private static void add(List<String> lines, String what, long answer) {
        lines.add(what + ": " + answer);
    }

    private static void refused(String call, long answer, Call made) {
        UnitThreads x = house();
        Due.is(scene + ": " + call, made.answer(x), answer);
        unchanged(call, x);
    }

    private static void unchanged(String call, UnitThreads x) {
        List<String> lines = picture(x);
        for (int i = 0; i < twin.size(); i++) {
            if (!lines.get(i).equals(twin.get(i))) {
                Due.no(scene + ": " + call + " changed " + twin.get(i) + " to " + lines.get(i), true);
                return;
            }
        }
        Due.yes(scene + ": " + call + " changed nothing", true);
    }

    private static void step(int unit, int second, int output) {
        refused("P2 step(" + unit + ", " + second + ", " + output + ", 99)", 0,
                x -> x.step(unit, second, output, 99L) ? 1 : 0);
    }

    private static void asks(int unit, int second, int way) {
        refused("P3 asks(" + unit + ", " + second + ", " + way + ")", 0,
                x -> x.asks(unit, second, way) ? 1 : 0);
    }

    private static void throwsAt(int unit, int second) {
        refused("P4 throwsAt(" + unit + ", " + second + ")", 0,
                x -> x.throwsAt(unit, second) ? 1 : 0);
    }

    private static void safe(int output) {
        refused("P5 safe(" + output + ", 99)", 0, x -> x.safe(output, 99L) ? 1 : 0);
    }

    private static void bar(int way, int second) {
        refused("P6 bar(" + way + ", " + second + ")", 0, x -> x.bar(way, second) ? 1 : 0);
    }

    private static void play(int seconds) {
        refused("P7 play(99, " + seconds + ")", -1, x -> x.play(99L, seconds));
    }

    private static void restart(int unit) {
        refused("P11 restart(" + unit + ")", 0, x -> x.restart(unit) ? 1 : 0);
    }

    private static void stepOutOfBounds() {
        for (int u : Edges.beyond(0, UNITS - 1)) {
            step(u, 3, 4 * u);
        }
        for (int second : Edges.beyond(0, 200)) {
            step(0, second, 0);
        }
        for (int u = 0; u < UNITS; u++) {
            for (int k : Edges.beyond(4 * u, 4 * u + 3)) {
                step(u, 3, k);
            }
        }
    }

    private static void asksOutOfBounds() {
        for (int u : Edges.beyond(0, UNITS - 1)) {
            asks(u, 3, 7);
        }
        for (int second : Edges.beyond(0, 200)) {
            asks(0, second, 7);
        }
        for (int way : Edges.beyond(0, 15)) {
            asks(0, 3, way);
        }
    }

    private static void throwsAtOutOfBounds() {
        for (int u : Edges.beyond(0, UNITS - 1)) {
            throwsAt(u, 3);
        }
        for (int second : Edges.beyond(0, 200)) {
            throwsAt(0, second);
        }
    }

    private static void safeOutOfBounds() {
        for (int k : Edges.beyond(0, 4 * UNITS - 1)) {
            safe(k);
        }
    }

    private static void barOutOfBounds() {
        for (int way : Edges.beyond(0, 15)) {
            for (int second = 0; second < 6; second++) {
                bar(way, second);
            }
        }
        for (int second : Edges.beyond(0, 63)) {
            bar(0, second);
            bar(15, second);
        }
    }

    private static void playOutOfBounds() {
        for (int seconds : Edges.beyond(0, 64)) {
            play(seconds);
        }
    }

    private static void restartOutOfBounds() {
        for (int u : Edges.beyond(0, UNITS - 1)) {
            restart(u);
        }
    }

    /** Calls that only look are not refused, but may change nothing either. */
    private static void looks() {
        UnitThreads x = house();
        for (int second = -1; second < 3; second++) {
            x.output(0, second);
            x.output(4 * UNITS - 1, second);
            x.owner(0, second);
            x.owner(5, second);
        }
        for (int number = 0; number < UNITS; number++) {
            x.state(number);
            x.held(number);
            x.log(0, number);
            x.count(number);
        }
        unchanged("P8 to P10, P12 to P14, looking", x);
    }

    private static void looksBeyond() {
        for (int far : new int[] {LEAST, -2, 16, GREATEST}) {
            refused("P8 output(" + far + ", -1)", 0, x -> x.output(far, -1));
            refused("P9 owner(" + far + ", -1)", -1, x -> x.owner(far, -1));
            refused("P10 state(" + far + ")", -1, x -> x.state(far));
            refused("P12 held(" + far + ")", -1, x -> x.held(far));
            refused("P13 log(0, " + far + ")", -1, x -> x.log(0, far));
            refused("P14 count(" + far + ")", -1, x -> x.count(far));
        }
        for (int far : new int[] {LEAST, -2, 64, GREATEST}) {
            refused("P8 output(0, " + far + ")", 0, x -> x.output(0, far));
            refused("P9 owner(5, " + far + ")", -1, x -> x.owner(5, far));
        }
        for (int far : new int[] {LEAST, -1, 3 * 64, GREATEST}) {
            refused("P13 log(" + far + ", 0)", -1, x -> x.log(far, 0));
        }
    }

    private static void asTold() {
        switch (scene) {
            case FRESH -> asToldWhenFresh();
            case BUSY -> asToldWhenBusy();
            case FULL -> asToldWhenFull();
            case OVER -> asToldWhenOver();
            default -> asToldWhenClosed();
        }
    }

    private static void asToldWhenFresh() {
        for (int u = 0; u < UNITS; u++) {
            restart(u);
        }
        refused("P7 play(99, 0)", 0, x -> x.play(99L, 0));
        refused("P7 play(99, 64), nothing told", 0, x -> x.play(99L, 64));
    }

    private static void asToldWhenBusy() {
        for (int second = 0; second < 3; second++) {
            step(0, second, 0);
            asks(0, second, 7);
            throwsAt(0, second);
            bar(7, second);
        }
        step(1, 0, 4);
        step(2, 1, 8);
        asks(1, 0, 5);
        asks(2, 1, 6);
        throwsAt(1, 0);
        throwsAt(2, 1);
        asks(1, 1, 5);
        asks(0, 4, 5);
        asks(0, 4, 6);
        asks(1, 2, 5);
        asks(2, 3, 6);
        throwsAt(0, 6);
        bar(6, 4);
        bar(6, 63);
        restart(0);
        restart(1);
        refused("P7 play(99, 0)", 0, x -> x.play(99L, 0));
    }

    private static void asToldWhenFull() {
        for (int u = 0; u < UNITS; u++) {
            step(u, 3, 4 * u);
            step(u, 200, 4 * u + 3);
            asks(u, 3, 0);
            asks(u, 200, 15);
            throwsAt(u, 3);
            throwsAt(u, 200);
        }
    }

    private static void asToldWhenOver() {
        for (int second = 0; second < 64; second++) {
            bar(0, second);
        }
        for (int seconds : new int[] {0, 1, 64}) {
            refused("P7 play(99, " + seconds + "), no second left", 0, x -> x.play(99L, seconds));
        }
    }

    private static void asToldWhenClosed() {
        for (int u = 0; u < UNITS; u++) {
            for (int second : new int[] {0, 3, 200}) {
                step(u, second, 4 * u);
                asks(u, second, u);
                throwsAt(u, second);
            }
            restart(u);
            safe(4 * u);
            safe(4 * u + 3);
        }
        for (int second : new int[] {0, 3, 63}) {
            bar(0, second);
            bar(15, second);
        }
        for (int seconds : new int[] {0, 1, 64}) {
            play(seconds);
        }
        refused("P15 close()", 0, UnitThreads::close);
    }
}

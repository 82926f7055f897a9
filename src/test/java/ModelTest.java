import java.util.Random;

/** Runs drawn by fixed seeds, at most 512 calls long, on the class and on the plain house. */
public final class ModelTest {
    private static final int[] WILD = {Integer.MIN_VALUE, Integer.MIN_VALUE + 3, -65, -4, -2, -1, 0, 1,
        3, 4, 7, 8, 11, 12, 15, 16, 31, 32, 33, 63, 64, 65, 200, 201, 511, 512, Integer.MAX_VALUE};

    private final Random random;
    private final int units;
    private final UnitThreads x;
    private final PlainHouse plain;
    private final int run;
    private int calls = 0;
    /** How far entries lie ahead: small numbers make quarrels over ways, great ones long runs. */
    private final int reach;
    private final int ways;

    private ModelTest(int run) {
        this.run = run;
        random = new Random(run);
        int told = random.nextInt(12) - 1;
        units = Math.max(1, Math.min(8, told));
        x = new UnitThreads(told);
        plain = new PlainHouse(told);
        reach = 1 + random.nextInt(random.nextBoolean() ? 4 : 70);
        ways = 1 + random.nextInt(16);
    }

    public static void main(String[] args) {
        for (int run = 0; run < 3000 && !Due.failed(); run++) {
            ModelTest test = new ModelTest(run);
            test.mixedCalls(120 + test.random.nextInt(230));
            test.sweep();
        }
        for (int run = 3000; run < 3300 && !Due.failed(); run++) {
            ModelTest test = new ModelTest(run);
            test.fill();
            test.mixedCalls(80);
            test.sweep();
        }
        Due.end();
    }

    private int number(int bound) {
        return random.nextInt(40) == 0 ? WILD[random.nextInt(WILD.length)] : random.nextInt(bound);
    }

    private int ownSecond(int unit) {
        int from = Math.max(0, plain.count(4 + unit));
        return random.nextInt(30) == 0 ? number(202) : from + number(reach) - random.nextInt(8) / 7;
    }

    private void mixedCalls(int most) {
        int closeAt = random.nextInt(3) == 0 ? random.nextInt(most) : -1;
        for (int i = 0; i < most; i++) {
            if (i == closeAt || closeAt >= 0 && i == closeAt + 9) {
                is("close()", x.close(), plain.close());
            }
            if (random.nextInt(3) == 0) {
                look();
            } else {
                act();
            }
        }
    }

    private void fill() {
        for (int i = 0; i < 302; i++) {
            tell();
        }
    }

    private void tell() {
        int unit = number(units);
        int second = ownSecond(Math.max(0, Math.min(7, unit)));
        int kind = random.nextInt(20);
        if (kind < 9) {
            int output = random.nextInt(30) == 0 ? number(33) : unit * 4 + random.nextInt(4);
            long v = random.nextLong();
            is("step(" + unit + ", " + second + ", " + output + ", " + v + ")",
                    x.step(unit, second, output, v), plain.step(unit, second, output, v));
        } else if (kind < 18) {
            int way = number(ways);
            is("asks(" + unit + ", " + second + ", " + way + ")",
                    x.asks(unit, second, way), plain.asks(unit, second, way));
        } else {
            is("throwsAt(" + unit + ", " + second + ")",
                    x.throwsAt(unit, second), plain.throwsAt(unit, second));
        }
    }

    private void act() {
        int kind = random.nextInt(20);
        if (kind < 12) {
            tell();
        } else if (kind < 13) {
            int k = number(4 * units);
            long v = random.nextInt(100);
            is("safe(" + k + ", " + v + ")", x.safe(k, v), plain.safe(k, v));
        } else if (kind < 15) {
            int way = number(ways);
            int second = plain.count(0) + number(4) - random.nextInt(5) / 4;
            is("bar(" + way + ", " + second + ")", x.bar(way, second), plain.bar(way, second));
        } else if (kind < 18) {
            int unit = number(units);
            is("restart(" + unit + ")", x.restart(unit), plain.restart(unit));
        } else {
            long seed = random.nextLong();
            int seconds = number(random.nextInt(20) == 0 ? 65 : 5);
            is("play(" + seed + ", " + seconds + ")", x.play(seed, seconds), plain.play(seed, seconds));
        }
    }

    private void look() {
        int second = number(plain.count(0) + 2) - 1;
        switch (random.nextInt(6)) {
            case 0 -> output(number(4 * units + 1), second);
            case 1 -> owner(number(17), second);
            case 2 -> state(number(units + 1));
            case 3 -> held(number(units + 1));
            case 4 -> log(number(plain.count(1) + 1), number(4));
            default -> count(number(13));
        }
    }

    private void sweep() {
        for (int u = 0; u < units; u++) {
            state(u);
            held(u);
            count(4 + u);
        }
        for (int what = 0; what < 4; what++) {
            count(what);
        }
        for (int k = 0; k < 4 * units; k++) {
            output(k, -1);
        }
        for (int way = 0; way < 16; way++) {
            owner(way, -1);
        }
        while (calls < 512) {
            look();
        }
    }

    private void output(int k, int second) {
        is("output(" + k + ", " + second + ")", x.output(k, second), plain.output(k, second));
    }

    private void owner(int way, int second) {
        is("owner(" + way + ", " + second + ")", x.owner(way, second), plain.owner(way, second));
    }

    private void state(int unit) {
        is("state(" + unit + ")", x.state(unit), plain.state(unit));
    }

    private void held(int unit) {
        is("held(" + unit + ")", x.held(unit), plain.held(unit));
    }

    private void log(int k, int what) {
        is("log(" + k + ", " + what + ")", x.log(k, what), plain.log(k, what));
    }

    private void count(int what) {
        is("count(" + what + ")", x.count(what), plain.count(what));
    }

    private void is(String call, boolean got, boolean want) {
        is(call, got ? 1L : 0L, want ? 1L : 0L);
    }

    private void is(String call, long got, long want) {
        calls++;
        if (calls <= 512) {
            Due.is("run " + run + ", call " + calls + ": " + call, got, want);
        }
    }
}

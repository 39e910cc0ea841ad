/** Promises 15 to 17 and 21 to 24: a movement goes, its spring, its book, its speeds and its rows of ticks. */
public final class GoingTest {
    private static final int BAD = WatchHouse.BAD, NO = WatchHouse.NO, FULL = WatchHouse.FULL, NONE = WatchHouse.NONE;

    private static void due(int promise, String call, long got, long want) {
        Due.due(promise, call, got, want);
    }

    private static WatchHouse started(int stiff, int drag, int gain, int bank, int torque) {
        WatchHouse x = new WatchHouse();
        x.arbor();
        x.escape(0, 1);
        x.balance(stiff, drag, gain, bank);
        x.torque(0, torque);
        x.go();
        return x;
    }

    private static void stateIs(int promise, WatchHouse x, long ticks, long steps, long place, long run, long lever) {
        due(promise, "state(0)", x.state(0), ticks);
        due(promise, "state(1)", x.state(1), steps);
        due(promise, "state(2)", x.state(2), place);
        due(promise, "state(3)", x.state(3), run);
        due(promise, "state(4)", x.state(4), lever);
    }

    private static void runs() {
        WatchHouse x = new WatchHouse();
        due(15, "run(1) when it does not go", x.run(1), NO);
        due(15, "run(20001) when it does not go", x.run(20001), BAD);
        x = started(4096, 10, 65536, 10000000, 40);
        due(15, "run(-1)", x.run(-1), BAD);
        due(15, "run(20001)", x.run(20001), BAD);
        due(15, "run(0)", x.run(0), 0);
        due(15, "run(3) at rest", x.run(3), 0);
        stateIs(15, x, 0, 3, 0, 0, -1);
        x.shock(1000);
        // v = 1000 - 10, x = 990, a tick, v = 990 + 40
        due(15, "run(1)", x.run(1), 1);
        stateIs(15, x, 1, 4, 990, 1030, 1);
        // v = 1030 - 61 - 10
        due(15, "run(1)", x.run(1), 0);
        stateIs(15, x, 1, 5, 1949, 959, 1);
        due(15, "run(60)", x.run(60), 4);
        due(15, "count(4)", x.count(4), 6);
        ofNegativePlace();
        ticksAtZero();
        dragStops();
        knocks();
        limits();
    }

    private static void ofNegativePlace() {
        WatchHouse x = started(1, 0, 0, 10000000, 0);
        x.shock(-1);
        x.run(1);
        stateIs(15, x, 0, 1, -1, -1, -1);
        x.run(1);
        // -1 * 1 >> 16 is -1: down, not cut off
        stateIs(15, x, 0, 2, -1, 0, -1);
        x.run(1);
        stateIs(15, x, 0, 3, 0, 1, -1);
    }

    /** A tick needs a torque above 0, x that may be 0, and v that may not. */
    private static void ticksAtZero() {
        WatchHouse x = started(1, 0, 0, 10000000, 1);
        x.shock(-5);
        due(15, "v below 0", x.run(1), 0);
        x.shock(9);
        due(15, "x is 0, v above 0", x.run(1), 1);
        stateIs(15, x, 1, 2, 0, 5, 1);
        x.shock(-5);
        due(15, "x is 0, v is 0", x.run(1), 0);
        stateIs(15, x, 1, 3, 0, 0, 1);
        x.shock(1);
        due(15, "v above 0, but the lever is at 1", x.run(1), 0);
        x.shock(-2);
        due(15, "x is 0, v is -1", x.run(1), 1);
        stateIs(15, x, 2, 5, 0, -1, -1);
        x.shock(2);
        due(15, "v is 1", x.run(1), 1);
        stateIs(15, x, 3, 6, 1, 1, 1);
    }

    private static void dragStops() {
        WatchHouse x = started(1, 1000, 0, 10000000, 0);
        x.shock(999);
        x.run(1);
        stateIs(15, x, 0, 1, 0, 0, -1);
        x.shock(-1001);
        x.run(1);
        stateIs(15, x, 0, 2, -1, -1, -1);
        x.run(1);
        stateIs(15, x, 0, 3, -1, 0, -1);
    }

    private static void knocks() {
        WatchHouse x = started(1, 0, 65536, 500, 7);
        x.shock(500);
        // not beyond the bank yet, and a tick
        due(15, "run(1)", x.run(1), 1);
        stateIs(15, x, 1, 1, 500, 507, 1);
        due(15, "state(7)", x.state(7), 0);
        // beyond: x is the bank, v is -v; the lever is at 1 and x above 0, so no tick
        due(15, "run(1)", x.run(1), 0);
        stateIs(15, x, 1, 2, 500, -507, 1);
        due(15, "state(7)", x.state(7), 1);
        // x = -7, v below 0: a tick the other way
        due(15, "run(1)", x.run(1), 1);
        stateIs(15, x, 2, 3, -7, -514, -1);
        due(15, "run(1)", x.run(1), 0);
        stateIs(15, x, 2, 4, -500, 513, -1);
        due(15, "state(7)", x.state(7), 2);
        due(24, "tick(0, 0)", x.tick(0, 0), 1);
        due(24, "tick(0, 1)", x.tick(0, 1), 500);
        due(24, "tick(1, 0)", x.tick(1, 0), 3);
        due(24, "tick(1, 1)", x.tick(1, 1), 500);
        due(24, "tick(2, 0)", x.tick(2, 0), BAD);
        due(23, "state(8)", x.state(8), 500);
    }

    private static void limits() {
        WatchHouse x = started(1, 0, 65536, 10000000, 1000000);
        x.shock(999999);
        x.run(1);
        due(15, "v is 1000000 at most", x.state(3), 1000000);
        x = started(4096, 0, 65536, 10000000, 0);
        x.shock(1000000);
        x.run(9);
        x.shock(-1000000);
        x.shock(-1000000);
        x.run(1);
        due(15, "v is -1000000 at least", x.state(3), -1000000);
        x = started(1, 0, 0, 1, 0);
        for (int i = 0; i < 9; i++) {
            due(15, "run(20000)", x.run(20000), 0);
        }
        due(15, "run(19999)", x.run(19999), 0);
        due(15, "run(2) beyond 200000", x.run(2), FULL);
        due(15, "run(20001) beyond 200000", x.run(20001), BAD);
        due(15, "run(1) to 200000", x.run(1), 0);
        due(15, "run(1) beyond 200000", x.run(1), FULL);
        due(15, "run(0)", x.run(0), 0);
        due(15, "state(1)", x.state(1), 200000);
        due(15, "count(4)", x.count(4), 12);
        due(15, "shock(3) behind them", x.shock(3), 3);
    }

    private static void shocks() {
        WatchHouse x = new WatchHouse();
        due(16, "shock(1) when it does not go", x.shock(1), NO);
        due(16, "shock(1000001) when it does not go", x.shock(1000001), BAD);
        x = started(1, 0, 0, 1, 0);
        due(16, "shock(-1000001)", x.shock(-1000001), BAD);
        due(16, "shock(1000001)", x.shock(1000001), BAD);
        due(16, "shock(7)", x.shock(7), 7);
        due(16, "shock(-9)", x.shock(-9), -2);
        due(16, "shock(1000000)", x.shock(1000000), 999998);
        due(16, "shock(1000000)", x.shock(1000000), 1000000);
        due(16, "shock(-1000000)", x.shock(-1000000), 0);
        due(16, "shock(-1000000)", x.shock(-1000000), -1000000);
        due(16, "shock(-1)", x.shock(-1), -1000000);
        due(16, "count(4)", x.count(4), 7);
        due(16, "x stays", x.state(2), 0);
    }

    /** The barrel turns once in 4 ticks. */
    private static WatchHouse sprung() {
        WatchHouse x = new WatchHouse();
        x.arbor();
        x.arbor();
        x.escape(0, 1);
        x.mesh(0, 1, 1, 2, 0);
        x.barrel(1);
        x.balance(4096, 0, 1000, 10000000);
        int[] points = {9000, 8001, 7000, 7500, 6000, 5000, 3000, 1000, 40};
        for (int k = 0; k < points.length; k++) {
            x.torque(k, points[k]);
        }
        x.dial(0, 9);
        x.go();
        x.shock(60000);
        return x;
    }

    private static void winds() {
        WatchHouse x = new WatchHouse();
        due(17, "wind(1) when it does not go", x.wind(1), NO);
        due(17, "wind(-1) when it does not go", x.wind(-1), BAD);
        x = sprung();
        due(17, "wind(-1)", x.wind(-1), BAD);
        due(17, "wind(100001)", x.wind(100001), BAD);
        due(17, "wind(100000) of none let down", x.wind(100000), 0);
        due(17, "state(5)", x.state(5), 9000);
        Due.runToTick(x, 1);
        due(23, "state(6)", x.state(6), 64);
        // (8001 - 9000) * 64 >> 8 is -249.75, down
        due(23, "state(5)", x.state(5), 9000 - 250);
        Due.runToTick(x, 9);
        due(23, "state(6)", x.state(6), 576);
        due(23, "state(5)", x.state(5), 7000 + 125);
        due(17, "wind(70)", x.wind(70), 70);
        due(23, "state(6)", x.state(6), 506);
        due(23, "state(5)", x.state(5), 8001 + (-1001 * 250 >> 8));
        due(17, "wind(1000)", x.wind(1000), 506);
        due(23, "state(6)", x.state(6), 0);
        due(23, "state(5)", x.state(5), 9000);
        Due.runToTick(x, 40);
        due(23, "state(6)", x.state(6), 64 * 31);
        due(23, "state(5)", x.state(5), 1000 + (-960 * 192 >> 8));
        Due.runToTick(x, 41);
        due(23, "state(5) beyond the last point", x.state(5), 0);
        due(15, "run(1000) without torque", x.run(1000), 0);
        due(23, "state(0)", x.state(0), 41);
        due(17, "wind(1)", x.wind(1), 1);
        due(23, "state(6)", x.state(6), 2047);
        due(23, "state(5)", x.state(5), 1000 + (-960 * 255 >> 8));
        due(15, "run(100) with torque again", x.run(100) > 0 ? 1 : 0, 1);
        unknownBarrel();
    }

    private static void unknownBarrel() {
        WatchHouse x = new WatchHouse();
        x.arbor();
        x.arbor();
        x.escape(0, 1);
        x.barrel(1);
        x.balance(4096, 0, 1000, 10000000);
        x.torque(0, 9000);
        x.go();
        x.shock(60000);
        x.run(200);
        due(17, "wind(1) of a barrel that is not known", x.wind(1), NO);
        due(17, "wind(-1) of it", x.wind(-1), BAD);
        due(23, "state(5) of it", x.state(5), 9000);
        due(23, "state(6) of it", x.state(6), 0);
    }

    private static void backs() {
        WatchHouse x = new WatchHouse();
        due(21, "back(0) when it does not go", x.back(0), NO);
        due(21, "back(1) when it does not go", x.back(1), BAD);
        due(21, "back(-1) when it does not go", x.back(-1), BAD);
        // Every kind of row, and behind each what the movement answers; then back to each of them.
        long[][] told = new long[11][];
        x = clockwork();
        told[0] = all(x);
        for (int row = 1; row < told.length; row++) {
            carry(x, row);
            due(21, "count(4)", x.count(4), row);
            told[row] = all(x);
        }
        due(23, "there were knocks", x.state(7) > 0 ? 1 : 0, 1);
        due(21, "back(11)", x.back(11), BAD);
        due(21, "back(-1)", x.back(-1), BAD);
        for (int row = told.length - 1; row >= 0; row--) {
            due(21, "back(" + row + ")", x.back(row), 0);
            due(21, "count(4)", x.count(4), row);
            due(21, "back(" + (row + 1) + ") beyond the rows", x.back(row + 1), BAD);
            same(x, told[row], row);
        }
        for (int row = 1; row < told.length; row++) {
            carry(x, row);
            same(x, told[row], row);
        }
        due(21, "the house is left", x.setting(-1, 0) + x.verdict(0) + x.limit(0), 5 + 6 + 7);
        due(21, "build() tells the rows", x.build(), 10);
    }

    private static WatchHouse clockwork() {
        WatchHouse x = sprung();
        x.build();
        x.arbor();
        x.arbor();
        x.escape(0, 1);
        x.mesh(0, 1, 1, 2, 1);
        x.barrel(1);
        x.balance(4096, 3, 1000, 200000);
        for (int k = 0; k <= 8; k++) {
            x.torque(k, 9000 - k * 1000);
        }
        x.dial(0, 4);
        x.strike(0, 1);
        x.calendar(1, 0, 28, 2, 2024);
        x.chronograph(0);
        x.chronograph(2);
        x.go();
        return x;
    }

    private static void carry(WatchHouse x, int row) {
        switch (row) {
            case 1 -> x.shock(70000);
            case 2 -> x.press(1, 0);
            case 3 -> x.run(200);
            case 4 -> x.press(1, 2);
            case 5 -> x.trip(1);
            case 6 -> x.correct(0, 0, 3);
            case 7 -> x.wind(100);
            case 8 -> x.run(77);
            case 9 -> x.correct(1, 2, 1);
            default -> {
                x.shock(-3);
                x.change(0, 0, 5);
                x.rate(1, 6);
                x.chain();
                x.size(1, 7, 0, 0);
            }
        }
    }

    private static long[] all(WatchHouse x) {
        long[] all = new long[370];
        int n = 0;
        for (int what = 0; what < 10; what++) {
            all[n++] = x.state(what);
            all[n++] = what == 4 ? 0 : x.count(what);
            all[n++] = x.hand(1, what);
            for (int work = 0; work < 3; work++) {
                all[n++] = x.shows(work, what);
            }
            for (int i = 0; i < 30; i++) {
                all[n++] = what < 2 ? x.tick(i, what) : what < 5 ? x.struck(i, what - 2) : x.speed(i, 2);
            }
        }
        return all;
    }

    private static void same(WatchHouse x, long[] told, int row) {
        long[] now = all(x);
        for (int i = 0; i < now.length; i++) {
            due(21, "answer " + i + " behind row " + row, now[i], told[i]);
        }
    }

    private static void speeds() {
        WatchHouse x = new WatchHouse();
        for (int i = 0; i < 5; i++) {
            x.arbor();
        }
        x.mesh(3, 200, 4, 1, 0);
        x.mesh(2, 200, 3, 1, 0);
        x.mesh(1, 200, 2, 1, 1);
        x.mesh(0, 200, 1, 160, 0);
        due(22, "speed(0, 1) before an escape arbor", x.speed(0, 1), 0);
        x.escape(0, 1);
        due(22, "speed(1, 0)", x.speed(1, 0), -5);
        due(22, "speed(1, 1)", x.speed(1, 1), 4);
        due(22, "speed(2, 0)", x.speed(2, 0), -250);
        due(22, "speed(3, 0)", x.speed(3, 0), 50000);
        due(22, "p of 10000000", x.speed(4, 0), -10000000);
        due(22, "speed(4, 1)", x.speed(4, 1), 1);
        due(22, "speed(4, 2)", x.speed(4, 2), 0);
        due(22, "speed(-1, 0)", x.speed(-1, 0), NONE);
        due(22, "speed(5, 0)", x.speed(5, 0), NONE);
        due(22, "speed(0, -1)", x.speed(0, -1), NONE);
        due(22, "speed(0, 3)", x.speed(0, 3), NONE);
        x.arbor();
        x.mesh(4, 2, 5, 1, 0);
        due(22, "speed(5, 0) beyond 10000000", x.speed(5, 0), 0);
        due(22, "speed(5, 1) beyond 10000000", x.speed(5, 1), 0);
        due(22, "it is not locked by that", x.state(9), 0);
        x.balance(4096, 0, 1000, 10000000);
        x.torque(0, 9000);
        x.go();
        x.shock(60000);
        Due.runToTick(x, 3);
        due(22, "speed(0, 2)", x.speed(0, 2), 1);
        due(22, "speed(1, 2), cut off", x.speed(1, 2), 1);
        due(22, "speed(3, 2)", x.speed(3, 2), 75000);
        due(22, "speed(4, 2)", x.speed(4, 2), 15000000);
        due(22, "speed(5, 2)", x.speed(5, 2), 0);
        standing();
        slow();
        threeWays();
    }

    /** The link with number 0 could not tell its arbor, another one did: then it does not hold. */
    private static void slow() {
        WatchHouse x = new WatchHouse();
        for (int i = 0; i < 6; i++) {
            x.arbor();
        }
        x.mesh(3, 1, 5, 2, 0);
        x.mesh(0, 1, 1, 200, 0);
        x.mesh(1, 1, 2, 200, 0);
        x.mesh(2, 1, 3, 200, 0);
        x.mesh(3, 160, 4, 200, 0);
        x.escape(0, 1);
        due(22, "q of 10000000", x.speed(4, 1), 10000000);
        due(22, "q beyond 10000000", x.speed(5, 1), 0);
        due(23, "state(9)", x.state(9), 0);
        x.mesh(4, 1, 5, 1, 0);
        due(22, "another link tells it", x.speed(5, 1), 10000000);
        due(23, "state(9)", x.state(9), 1);
    }

    /** An epicycle can hold an arbor still: that is known, and 0 / 1. */
    private static void standing() {
        WatchHouse x = new WatchHouse();
        x.arbor();
        x.arbor();
        x.arbor();
        x.escape(0, 1);
        x.mesh(0, 7, 1, 7, 0);
        x.epicycle(0, 5, 1, 5, 2);
        due(22, "p of one that stands", x.speed(2, 0), 0);
        due(22, "q of one that stands", x.speed(2, 1), 1);
        due(22, "go()", x.go(), 3);
    }

    /** The link with the lower number tells first; an epicycle of great fractions is still looked at exactly. */
    private static void threeWays() {
        WatchHouse x = new WatchHouse();
        for (int i = 0; i < 3; i++) {
            x.arbor();
        }
        x.escape(0, 1);
        x.mesh(0, 1, 1, 3, 0);
        x.mesh(0, 1, 1, 5, 0);
        due(22, "the first link tells", x.speed(1, 1), 3);
        due(23, "state(9)", x.state(9), 1);
        WatchHouse y = new WatchHouse();
        for (int i = 0; i < 9; i++) {
            y.arbor();
        }
        y.escape(0, 1);
        // With q of seven figures each, a sum over all three arbors would not be within a long.
        y.mesh(0, 1, 1, 199, 1);
        y.mesh(1, 1, 2, 197, 1);
        y.mesh(2, 1, 3, 193, 1);
        y.mesh(0, 1, 4, 200, 1);
        y.mesh(4, 1, 5, 191, 1);
        y.mesh(5, 1, 6, 187, 1);
        due(22, "q of 3", y.speed(3, 1), 199L * 197 * 193);
        due(22, "q of 6", y.speed(6, 1), 200L * 191 * 187);
        y.epicycle(3, 200, 6, 199, 0);
        due(23, "state(9) of great fractions", y.state(9), 1);
        due(22, "epicycle beyond 10000000", y.epicycle(3, 1, 6, 1, 7), 7);
        due(22, "it is not known", y.speed(7, 1), 0);
    }

    private static void states() {
        WatchHouse x = new WatchHouse();
        due(23, "state(-1)", x.state(-1), NONE);
        due(23, "state(10)", x.state(10), NONE);
        x = started(4096, 0, 0, 10000000, 9);
        x.shock(1000);
        x.run(1);
        due(23, "state(8) right behind a tick", x.state(8), 0);
        x.run(1);
        due(23, "state(8)", x.state(8), x.state(2));
        x.shock(-500000);
        long place = x.state(2);
        x.run(1);
        due(23, "state(8) is a size, and behind a tick 0", x.state(8), 0);
        due(24, "tick(1, 1)", x.tick(1, 1), Math.abs(x.state(2)));
        due(23, "x was above 0", place > 0 ? 1 : 0, 1);
    }

    private static void tickRows() {
        WatchHouse x = started(4096, 0, 65536, 10000000, 5000);
        due(24, "tick(0, 0) of none", x.tick(0, 0), BAD);
        x.shock(50000);
        x.run(20000);
        x.run(20000);
        due(24, "enough ticks for this test", x.state(0) > 3000 ? 1 : 0, 1);
        due(24, "tick(-1, 0)", x.tick(-1, 0), BAD);
        due(24, "tick(0, -1)", x.tick(0, -1), BAD);
        due(24, "tick(0, 2)", x.tick(0, 2), BAD);
        due(24, "tick(0, 0)", x.tick(0, 0), 1);
        due(24, "tick(0, 1)", x.tick(0, 1), 50000);
        due(24, "tick(2999, 0) is kept", x.tick(2999, 0) > x.tick(2998, 0) ? 1 : 0, 1);
        due(24, "tick(3000, 0) is not kept", x.tick(3000, 0), BAD);
        due(24, "tick(3000, 1) is not kept", x.tick(3000, 1), BAD);
        int before = x.tick(2999, 0);
        x.run(2000);
        due(24, "tick(2999, 0) stays", x.tick(2999, 0), before);
        x.back(1);
        due(24, "tick(0, 0) when it is back", x.tick(0, 0), BAD);
    }

    public static void main(String[] args) {
        runs();
        shocks();
        winds();
        backs();
        speeds();
        states();
        tickRows();
        Due.end();
    }
}

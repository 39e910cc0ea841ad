import java.util.function.Supplier;

/** Boundaries of promises 15 to 17 and 21 to 24: one method for each sentence. */
final class EdgesGoing {
    private static final int BAD = Edge.BAD, NO = Edge.NO, FULL = Edge.FULL, NONE = Edge.NONE;
    private static final int WIDE = 10000000, FAST = 1000000;
    private static final String FIRST = "of several the one named first is answered";
    private static final String GOING_ONLY = "NO in all of these, when it does not";
    private static final String FULL_BOOK = "2000 at most: when it has so many, one that would be carried out is FULL (asked last)";
    private static final String LIMITED = "v is -1000000 .. 1000000: beyond that it is the nearer one (each time that it is another one)";

    private EdgesGoing() {
    }

    private static void says(int promise, String sentence) {
        Edge.says(promise, sentence);
    }

    private static void due(String call, long got, long want) {
        Edge.due(call, got, want);
    }

    private static void refuses(String call, long want, Supplier<WatchHouse> made, Edge.Call asked) {
        Edge.refuses(call, want, made, asked);
    }

    private static WatchHouse built() {
        WatchHouse x = Edge.arbors(2);
        x.escape(0, 1);
        x.barrel(0);
        return x;
    }

    private static void stateIs(String when, WatchHouse x, long ticks, long place, long run, long lever) {
        due("N " + when, x.state(0), ticks);
        due("x " + when, x.state(2), place);
        due("v " + when, x.state(3), run);
        due("the LEVER " + when, x.state(4), lever);
    }

    // ---- 15

    private static void runNumber() {
        says(15, "n is not 0 .. 20000");
        Edge.range("run(n)", 0, 20000, 0, () -> Edge.started(1, 0, 0, 1, 0), WatchHouse::run);
        WatchHouse x = Edge.ticked(Due.oneArbor(1), 3);
        long steps = x.state(1);
        due("run(0)", x.run(0), 0);
        due("the steps behind run(0)", x.state(1), steps);
    }

    private static void runWhenItDoesNotGo() {
        says(15, GOING_ONLY);
        refuses("run(1)", NO, EdgesGoing::built, x -> x.run(1));
        refuses("run(0) of a new object", NO, WatchHouse::new, x -> x.run(0));
        says(15, FIRST);
        refuses("run(-1) when it does not go", BAD, EdgesGoing::built, x -> x.run(-1));
        refuses("run(20001) when it does not go", BAD, EdgesGoing::built, x -> x.run(20001));
        refuses("run(20001) behind 200000 steps", BAD, () -> stepped(200000), x -> x.run(20001));
        refuses("run(-1) when the book is full", BAD, () -> Edge.fullBook(Edge.going(1)), x -> x.run(-1));
    }

    /** So many steps have been done. */
    private static WatchHouse stepped(int steps) {
        WatchHouse x = Edge.started(1, 0, 0, 1, 0);
        for (int left = steps; left > 0; left -= 20000) {
            x.run(Math.min(left, 20000));
        }
        return x;
    }

    private static void mostSteps() {
        says(15, "A movement goes 200000 steps at most.");
        due("run(1) to 200000", stepped(199999).run(1), 0);
        due("run(20000) to 200000", stepped(180000).run(20000), 0);
        due("the steps", stepped(200000).state(1), 200000);
        says(15, "there would be more than 200000, or the book");
        refuses("run(2) behind 199999", FULL, () -> stepped(199999), x -> x.run(2));
        refuses("run(20000) behind 180001", FULL, () -> stepped(180001), x -> x.run(20000));
        refuses("run(1) behind 200000", FULL, () -> stepped(200000), x -> x.run(1));
        due("run(0) behind 200000", stepped(200000).run(0), 0);
        refuses("run(0) when the book is full", FULL, () -> Edge.fullBook(Edge.going(1)), x -> x.run(0));
    }

    private static void runFillsTheBook() {
        says(15, FULL_BOOK);
        WatchHouse x = Edge.fullBook(Edge.ticked(Due.oneArbor(1), 3));
        due("count(4)", x.count(4), 2000);
        refuses("run(1)", FULL, () -> Edge.fullBook(Edge.ticked(Due.oneArbor(1), 3)), y -> y.run(1));
        x.back(1999);
        due("run(7) as row 2000", x.run(7) >= 0 ? 1 : 0, 1);
        due("count(4)", x.count(4), 2000);
        due("run(7) once more", x.run(7), FULL);
    }

    private static void divisionIsDown() {
        says(15, "x >> k is x divided by 2 to the k, down");
        WatchHouse x = Edge.started(1, 0, 0, WIDE, 0);
        x.shock(-1);
        x.run(2);
        stateIs("behind x = -1: -1 >> 16 is -1", x, 0, -1, 0, -1);
        x = Edge.started(1, 0, 0, WIDE, 0);
        x.shock(1);
        x.run(2);
        stateIs("behind x = 1: 1 >> 16 is 0", x, 0, 2, 1, -1);
        x = Edge.started(1, 0, 65535, WIDE, 1);
        x.shock(5);
        x.run(1);
        stateIs("behind a tick of 65535 >> 16", x, 1, 5, 5, 1);
        x = Edge.started(1, 0, 65536, WIDE, 1);
        x.shock(5);
        x.run(1);
        stateIs("behind a tick of 65536 >> 16", x, 1, 5, 6, 1);
    }

    private static void dragStops() {
        says(15, "then it comes DRAG nearer to 0, but not beyond");
        int[][] runs = {{999, 0}, {1000, 0}, {1001, 1}, {0, 0}, {1, 0}, {-1, 0}, {-999, 0}, {-1000, 0}, {-1001, -1}, {-3000, -2000}};
        for (int[] run : runs) {
            WatchHouse x = Edge.started(1, 1000, 0, WIDE, 0);
            x.shock(run[0]);
            x.run(1);
            stateIs("behind v = " + run[0], x, 0, run[1], run[1], -1);
        }
    }

    private static void banks() {
        says(15, "is x beyond BANK, or below -BANK, it is that, v is -v, and the KNOCKS are one more");
        int[][] runs = {{499, 499, 499, 0}, {500, 500, 500, 0}, {501, 500, -501, 1}, {FAST, 500, -FAST, 1}, {-499, -499, -499, 0},
            {-500, -500, -500, 0}, {-501, -500, 501, 1}, {-FAST, -500, FAST, 1}};
        for (int[] run : runs) {
            WatchHouse x = Edge.started(1, 0, 0, 500, 0);
            x.shock(run[0]);
            x.run(1);
            stateIs("behind v = " + run[0], x, 0, run[1], run[2], -1);
            due("the KNOCKS behind v = " + run[0], x.state(7), run[3]);
        }
        WatchHouse x = Edge.started(1, 0, 0, 1, 0);
        x.shock(1);
        due("run(1) to BANK 1", x.run(1) + x.state(7), 0);
        x.shock(1000);
        x.run(5);
        due("a knock with each step then, from side to side", x.state(7), 5);
    }

    private static void noTorque() {
        says(15, "if the TORQUE T is above 0");
        for (int torque = 0; torque <= 1; torque++) {
            WatchHouse x = Edge.arbors(2);
            x.escape(0, 1);
            x.mesh(0, 2, 1, 1, 0);
            x.torque(0, torque);
            x.dial(1, 9);
            x.chronograph(0);
            x.go();
            x.press(0, 0);
            x.shock(5);
            due("run(1) with torque " + torque, x.run(1), torque);
            due("the lever with torque " + torque, x.state(4), torque == 0 ? -1 : 1);
            due("a dial with torque " + torque, x.shows(0, 0), torque);
            due("a chronograph with torque " + torque, x.hand(0, 1), torque);
        }
    }

    /** The lever is at -1; x comes to a place with a run. */
    private static void leverBelow() {
        says(15, "the lever is at -1, x is not below 0 and v above 0");
        WatchHouse x = Edge.started(1, 0, 0, WIDE, 1);
        due("x is 0, v is 0", x.run(1), 0);
        x.shock(-5);
        due("x is -5, v is -5", x.run(1), 0);
        x.shock(8);
        // v = 3, and 1 more by x = -5
        due("x is -1, v is 4", x.run(1), 0);
        stateIs("below 0", x, 0, -1, 4, -1);
        x.shock(-4);
        due("x is 0, v is 1", x.run(1), 1);
        stateIs("at 0", x, 1, 0, 1, 1);
        WatchHouse y = Edge.started(1, 0, 0, WIDE, 1);
        y.shock(-1);
        y.run(2);
        stateIs("x is -1, v is 0", y, 0, -1, 0, -1);
        WatchHouse z = Edge.started(1, 0, 0, 5, 1);
        z.shock(9);
        due("x above 0, but v below 0 by a knock", z.run(1), 0);
    }

    private static void leverAbove() {
        says(15, "the lever is at 1, x not above 0 and v below 0");
        WatchHouse x = Edge.started(1, 0, 0, WIDE, 1);
        x.shock(5);
        x.run(1);
        stateIs("behind the first tick", x, 1, 5, 5, 1);
        x.shock(-9);
        due("x is 1, v is -4", x.run(1), 0);
        stateIs("above 0", x, 1, 1, -4, 1);
        x.shock(3);
        due("x is 0, v is -1", x.run(1), 1);
        stateIs("at 0", x, 2, 0, -1, -1);
        WatchHouse y = Edge.started(1, 0, 0, WIDE, 1);
        y.shock(5);
        y.run(1);
        y.shock(-10);
        due("x is 0, v is -5", y.run(1), 1);
        WatchHouse z = Edge.started(1, 0, 0, WIDE, 1);
        z.shock(-5);
        z.run(1);
        z.shock(9);
        z.run(1);
        stateIs("behind a tick at 0", z, 1, 0, 5, 1);
        z.shock(-5);
        due("x is 0, v is 0", z.run(1), 0);
        z.shock(1);
        due("x is 1, v is 1", z.run(1), 0);
    }

    private static void impulses() {
        says(15, "v is more by T * GAIN >> 16, if v is above 0, else less by that");
        WatchHouse x = Edge.started(1, 0, 65536, WIDE, 100);
        x.shock(5);
        x.run(1);
        stateIs("behind a tick with v above 0", x, 1, 5, 105, 1);
        x.shock(-110);
        x.run(1);
        stateIs("behind a tick with v below 0", x, 2, 0, -105, -1);
        WatchHouse y = Edge.started(1, 0, 65536, WIDE, 1000000);
        y.shock(-500);
        y.run(1);
        y.shock(1000);
        y.run(1);
        stateIs("behind a tick of all that there can be", y, 1, 1, FAST, 1);
    }

    private static void limitedBySpring() {
        says(15, LIMITED);
        WatchHouse x = Edge.started(4096, 1000, 0, WIDE, 0);
        x.shock(FAST);
        x.run(8);
        x.shock(-FAST);
        x.shock(-FAST);
        due("v before", x.state(3), -FAST);
        x.run(1);
        due("v, first limited, then nearer to 0 by the drag", x.state(3), -FAST + 1000);
        WatchHouse y = Edge.started(4096, 1000, 0, WIDE, 0);
        y.shock(-FAST);
        y.run(8);
        y.shock(FAST);
        y.shock(FAST);
        due("v before", y.state(3), FAST);
        y.run(1);
        due("v, first limited, then nearer to 0 by the drag", y.state(3), FAST - 1000);
    }

    private static void limitedByTicks() {
        says(15, LIMITED);
        int[][] runs = {{FAST - 101, FAST - 1}, {FAST - 100, FAST}, {FAST - 99, FAST}, {FAST, FAST}};
        for (int[] run : runs) {
            WatchHouse x = Edge.started(1, 0, 65536, WIDE, 100);
            x.shock(run[0]);
            x.run(1);
            due("v behind a tick with " + run[0], x.state(3), run[1]);
            WatchHouse y = Edge.started(1, 0, 65536, WIDE, 100);
            y.shock(1);
            y.run(1);
            y.shock(-101);
            y.shock(-run[0]);
            y.run(1);
            due("v behind a tick with " + -run[0], y.state(3), -run[1]);
        }
    }

    // ---- 16

    private static void shocks() {
        says(16, "n is not -1000000 .. 1000000");
        Edge.outside("shock(n)", -FAST, FAST, () -> Edge.started(1, 0, 0, 1, 0), WatchHouse::shock);
        due("shock(-1000000)", Edge.going(1).shock(-FAST), -FAST);
        due("shock(1000000)", Edge.going(1).shock(FAST), FAST);
        due("shock(0)", Edge.going(1).shock(0), 0);
        says(16, GOING_ONLY);
        refuses("shock(1)", NO, EdgesGoing::built, x -> x.shock(1));
        says(16, FIRST);
        refuses("shock(1000001) when it does not go", BAD, EdgesGoing::built, x -> x.shock(FAST + 1));
        refuses("shock(-1000001) when the book is full", BAD, () -> Edge.fullBook(Edge.going(1)), x -> x.shock(-FAST - 1));
        says(16, FULL_BOOK);
        refuses("shock(1)", FULL, () -> Edge.fullBook(Edge.going(1)), x -> x.shock(1));
        refuses("shock(0)", FULL, () -> Edge.fullBook(Edge.going(1)), x -> x.shock(0));
    }

    private static void limitedByShocks() {
        says(16, LIMITED);
        WatchHouse x = Edge.going(1);
        due("shock(999999)", x.shock(FAST - 1), FAST - 1);
        due("shock(1)", x.shock(1), FAST);
        due("shock(1)", x.shock(1), FAST);
        due("shock(-1): from the nearer one", x.shock(-1), FAST - 1);
        due("shock(-1000000)", x.shock(-FAST), -1);
        due("shock(-999999)", x.shock(-FAST + 1), -FAST);
        due("shock(-1000000)", x.shock(-FAST), -FAST);
        due("shock(1)", x.shock(1), -FAST + 1);
        due("state(3)", x.state(3), -FAST + 1);
    }

    // ---- 17

    /** The barrel turns once in 4 ticks, so that 64 256ths are let down by each. */
    private static WatchHouse sprung(int ticks) {
        WatchHouse x = Edge.arbors(3);
        x.escape(0, 1);
        x.mesh(0, 1, 1, 2, 0);
        x.barrel(1);
        x.balance(4096, 0, 1000, WIDE);
        for (int k = 0; k <= 8; k++) {
            x.torque(k, 9000 - 1000 * k + k % 2);
        }
        return Edge.ticked(x, ticks);
    }

    private static void windNumber() {
        says(17, "n is not 0 .. 100000");
        Edge.range("wind(n)", 0, 100000, 0, () -> sprung(0), WatchHouse::wind);
        Edge.outside("wind(n)", 0, 100000, () -> sprung(9), WatchHouse::wind);
    }

    private static void windNoMore() {
        says(17, "but no more than it is let down: by how many");
        int[][] winds = {{0, 0}, {1, 1}, {575, 575}, {576, 576}, {577, 576}, {100000, 576}};
        for (int[] wind : winds) {
            WatchHouse x = sprung(9);
            int rows = x.count(4);
            due("wind(" + wind[0] + ") of 576", x.wind(wind[0]), wind[1]);
            due("LET DOWN then", x.state(6), 576 - wind[1]);
            due("its row in the book", x.count(4), rows + 1);
        }
        WatchHouse x = sprung(9);
        x.wind(576);
        due("wind(1) of one that is wound up", x.wind(1), 0);
        Due.runToTick(x, 10);
        due("wind(100000) a tick later", x.wind(100000), 64);
    }

    private static void windRefused() {
        says(17, GOING_ONLY);
        refuses("wind(1)", NO, EdgesGoing::built, x -> x.wind(1));
        says(17, "NO; also without a barrel that is known");
        refuses("wind(0) without a barrel", NO, () -> Edge.going(2), x -> x.wind(0));
        refuses("wind(0) with one that is not known", NO, EdgesGoing::unknownBarrel, x -> x.wind(0));
        says(17, FIRST);
        refuses("wind(-1) when it does not go", BAD, EdgesGoing::built, x -> x.wind(-1));
        refuses("wind(100001) without a barrel", BAD, () -> Edge.going(2), x -> x.wind(100001));
        refuses("wind(-1) when the book is full", BAD, () -> Edge.fullBook(sprung(9)), x -> x.wind(-1));
        refuses("wind(1) without a barrel when the book is full", NO, () -> Edge.fullBook(Edge.going(2)), x -> x.wind(1));
        says(17, FULL_BOOK);
        refuses("wind(1)", FULL, () -> Edge.fullBook(sprung(9)), x -> x.wind(1));
        refuses("wind(0)", FULL, () -> Edge.fullBook(sprung(0)), x -> x.wind(0));
    }

    private static WatchHouse unknownBarrel() {
        WatchHouse x = Due.oneArbor(1);
        x.arbor();
        x.barrel(1);
        x.torque(1, 77);
        return Edge.ticked(x, 5);
    }

    // ---- 21

    private static final int ROWS = 9;

    /** Works of each kind, chronographs and a spring: the first so many of nine rows, of every kind. */
    private static WatchHouse booked(int rows) {
        WatchHouse x = Edge.arbors(2);
        x.escape(0, 1);
        x.mesh(0, 1, 1, 2, 1);
        x.barrel(1);
        x.balance(4096, 3, 1000, 200000);
        for (int k = 0; k <= 8; k++) {
            x.torque(k, 9000 - k * 1000);
        }
        x.dial(0, 4);
        x.strike(0, 1);
        x.calendar(1, 0, 28, 2, 2024);
        x.chronograph(2);
        x.go();
        for (int row = 0; row < rows; row++) {
            switch (row) {
                case 0 -> x.press(0, 0);
                case 1 -> x.shock(70000);
                case 2 -> x.run(150);
                case 3 -> x.press(0, 2);
                case 4 -> x.trip(1);
                case 5 -> x.correct(0, 0, 3);
                case 6 -> x.wind(100);
                case 7 -> x.correct(1, 2, 1);
                default -> x.run(77);
            }
        }
        return x;
    }

    private static void backNumber() {
        says(21, "n is not 0 .. how many there are");
        Edge.range("back(n)", 0, ROWS, 0, () -> booked(ROWS), WatchHouse::back);
        Edge.range("back(n) of an empty book", 0, 0, 0, () -> booked(0), WatchHouse::back);
        says(21, GOING_ONLY);
        refuses("back(0)", NO, EdgesGoing::built, x -> x.back(0));
        says(21, FIRST);
        refuses("back(1) when it does not go", BAD, EdgesGoing::built, x -> x.back(1));
        refuses("back(-1) when it does not go", BAD, EdgesGoing::built, x -> x.back(-1));
    }

    private static void backAlone() {
        says(21, "The movement is as it was behind the first n rows of the book, which has these alone then");
        for (int n = 0; n <= ROWS; n++) {
            WatchHouse x = booked(ROWS);
            due("back(" + n + ")", x.back(n), 0);
            due("count(4)", x.count(4), n);
            int rows = n;
            refuses("back(" + (n + 1) + ") behind back(" + n + ")", BAD, () -> backTo(rows), y -> y.back(rows + 1));
            long[] now = Probe.answers(x);
            long[] then = Probe.answers(booked(n));
            for (int i = 0; i < now.length; i++) {
                due("answer " + i + " behind back(" + n + ")", now[i], then[i]);
            }
        }
    }

    private static WatchHouse backTo(int n) {
        WatchHouse x = booked(ROWS);
        x.back(n);
        return x;
    }

    private static void bookRows() {
        says(21, "THE BOOK has a row for each call marked (B) that was carried out since go()");
        WatchHouse x = booked(0);
        long[] refused = {x.run(-1), x.shock(FAST + 1), x.wind(-1), x.press(0, 1), x.press(1, 0), x.correct(0, 0, 4), x.trip(0), x.back(1)};
        for (long answer : refused) {
            due("refused", answer < 0 ? 1 : 0, 1);
        }
        due("count(4) behind refused calls", x.count(4), 0);
        int[] questions = {x.count(0), x.shows(0, 0), x.hand(0, 0), (int) x.state(0), (int) x.speed(0, 2), x.change(0, 0, 1), x.merge(0)};
        due("count(4) behind " + questions.length + " calls that are not marked", x.count(4), 0);
        for (int row = 1; row <= ROWS; row++) {
            due("count(4)", booked(row).count(4), row);
        }
        x.back(0);
        due("back() has no row", x.count(4), 0);
    }

    private static void backFrees() {
        says(21, "which has these alone then");
        WatchHouse x = Edge.fullBook(Edge.going(1));
        due("back(2000) of a full book", x.back(2000), 0);
        due("shock(1)", x.shock(1), FULL);
        due("back(1999)", x.back(1999), 0);
        due("shock(1)", x.shock(1), 1);
        due("shock(1)", x.shock(1), FULL);
        WatchHouse z = Edge.going(1);
        for (int i = 0; i < 2000; i++) {
            z.shock(1);
        }
        for (int n = 2000; n >= 0; n -= n > 1998 ? 1 : 666) {
            z.back(n);
            due("v of 2000 shocks behind back(" + n + ")", z.state(3), n);
        }
        WatchHouse y = stepped(200000);
        due("back(9)", y.back(9), 0);
        due("run(20000) once more", y.run(20000), 0);
        due("run(1)", y.run(1), FULL);
    }

    private static void backLeavesTheHouse() {
        says(21, "Sections 4 to 7 are the house's, not the movement's: build() and back() leave them.");
        WatchHouse x = EdgesHouse.furnished();
        x.arbor();
        x.escape(0, 1);
        x.go();
        x.shock(5);
        x.back(0);
        x.build();
        long[] now = Probe.answers(x);
        long[] then = Probe.answers(EdgesHouse.furnished());
        for (int i = 0; i < now.length; i++) {
            due("answer " + i, now[i], then[i]);
        }
    }

    // ---- 22

    private static void speedOfNone() {
        says(22, "NONE: no such arbor, or what");
        WatchHouse x = Edge.ticked(Due.oneArbor(1), 3);
        Edge.question("speed(arbor, 1)", 0, 0, NONE, x, (y, v) -> y.speed(v, 1));
        Edge.question("speed(arbor, 1) of 24", 0, 23, NONE, Edge.arbors(24), (y, v) -> y.speed(v, 1));
        Edge.question("speed(0, what)", 0, 2, NONE, x, (y, v) -> y.speed(0, v));
        due("speed(0, 0) without arbors", new WatchHouse().speed(0, 0), NONE);
    }

    private static void speedNotKnown() {
        says(22, "(all 0 if it is not known)");
        WatchHouse x = Due.oneArbor(1);
        x.arbor();
        Edge.ticked(x, 5);
        for (int what = 0; what <= 2; what++) {
            due("speed(1, " + what + ")", x.speed(1, what), 0);
            due("speed(0, " + what + ") without an escape arbor", Edge.arbors(1).speed(0, what), 0);
        }
        says(22, "at first that of the escape arbor, 1 / 1, alone");
        due("p of the escape arbor", x.speed(0, 0), 1);
        due("q of the escape arbor", x.speed(0, 1), 1);
    }

    /** Arbor 1 turns -1 times, 2 stands still, 5 turns this many times, and 6 twice as often less arbor a's turns. */
    private static WatchHouse greatSpeed(int sign, int a) {
        WatchHouse x = Edge.arbors(7);
        x.escape(0, 1);
        x.mesh(0, 1, 1, 1, 0);
        x.epicycle(0, 1, 1, 1, 2);
        x.mesh(0, 200, 3, 1, 1);
        x.mesh(3, 200, 4, 1, 1);
        x.mesh(4, 125, 5, 1, sign > 0 ? 1 : 0);
        x.epicycle(a, 1, 6, 1, 5);
        return x;
    }

    private static void greatestSpeed() {
        says(22, "if the size of its p and its q are 10000000 at most");
        int[][] cases = {{1, 0, 9999999}, {1, 2, 10000000}, {1, 1, 0}, {-1, 1, -9999999}, {-1, 2, -10000000}, {-1, 0, 0}};
        for (int[] c : cases) {
            WatchHouse x = greatSpeed(c[0], c[1]);
            due("p of " + c[0] + " * 10000000 less that of arbor " + c[1], x.speed(6, 0), c[2]);
            due("its q", x.speed(6, 1), c[2] == 0 ? 0 : 1);
            due("it is not locked by that", x.state(9), 0);
            due("go()", x.go(), c[2] == 0 ? 6 : 7);
        }
        int[][] teeth = {{200, 200, 125, 2, 10000000}, {178, 106, 106, 5, 0}, {200, 200, 125, 1, 5000000}};
        for (int[] t : teeth) {
            WatchHouse x = Edge.arbors(5);
            x.escape(0, 1);
            for (int i = 0; i < 4; i++) {
                x.mesh(i, 1, i + 1, t[i], 1);
            }
            due("q of " + t[0] + " * " + t[1] + " * " + t[2] + " * " + t[3], x.speed(4, 1), t[4]);
            due("its p", x.speed(4, 0), t[4] == 0 ? 0 : 1);
        }
        says(22, "(p may be NONE, too)");
        due("p", greatSpeed(-1, 1).speed(6, 0), NONE);
        due("q", greatSpeed(-1, 1).speed(6, 1), 1);
    }

    private static void lowestTerms() {
        says(22, "p / q in lowest terms (q above 0)");
        WatchHouse x = Edge.arbors(5);
        x.escape(0, 1);
        x.mesh(0, 120, 1, 200, 0);
        x.mesh(1, 200, 2, 200, 0);
        x.epicycle(1, 7, 2, 7, 3);
        // 3 * 1 + 9 * b = 12 * -3 / 5
        x.epicycle(0, 3, 4, 9, 1);
        int[][] speeds = {{1, 1}, {-3, 5}, {3, 5}, {0, 1}, {-17, 15}};
        for (int i = 0; i < speeds.length; i++) {
            due("p of arbor " + i, x.speed(i, 0), speeds[i][0]);
            due("q of arbor " + i, x.speed(i, 1), speeds[i][1]);
        }
    }

    private static void allButOne() {
        says(22, "a link of whose arbors all but one are known tells that one");
        WatchHouse x = Edge.arbors(4);
        x.escape(0, 1);
        x.epicycle(0, 1, 1, 2, 2);
        x.mesh(1, 1, 3, 1, 0);
        for (int i = 1; i < 4; i++) {
            due("q of arbor " + i + ", two of each link being unknown", x.speed(i, 1), 0);
        }
        x.mesh(0, 1, 3, 4, 0);
        due("q of arbor 3", x.speed(3, 1), 4);
        due("p of arbor 1, told by arbor 3", x.speed(1, 0), 1);
        // 1 + 2 * 1 / 4 = 3 * c
        due("p of arbor 2, told by both others", x.speed(2, 0), 1);
        due("q of arbor 2", x.speed(2, 1), 2);
    }

    private static void rounds() {
        says(22, "rounds are done until one tells none");
        WatchHouse x = Edge.arbors(24);
        for (int i = 23; i > 0; i--) {
            x.mesh(i - 1, 1, i, 1, 0);
        }
        x.escape(0, 1);
        for (int i = 0; i < 24; i++) {
            due("p of arbor " + i + ", told in round " + i, x.speed(i, 0), i % 2 == 0 ? 1 : -1);
        }
        says(22, "In ROUNDS, by the numbers of the links");
        WatchHouse y = Edge.arbors(2);
        y.escape(0, 1);
        y.mesh(0, 1, 1, 3, 0);
        y.mesh(0, 1, 1, 5, 0);
        due("q by the link with the lower number", y.speed(1, 1), 3);
    }

    private static void turnsCutOff() {
        says(22, "its TURNS are that, cut off, its PART what is left");
        WatchHouse x = Due.oneArbor(3);
        x.arbor();
        x.arbor();
        x.mesh(0, 5, 1, 2, 0);
        x.mesh(0, 1, 2, 200, 0);
        x.go();
        x.shock(50000);
        for (int ticks = 0; ticks <= 25; ticks++) {
            Due.runToTick(x, ticks);
            due("turns of 1 / 1 behind tick " + ticks, x.speed(0, 2), ticks / 6);
            due("turns of -5 / 2 behind tick " + ticks, x.speed(1, 2), 5 * ticks / 12);
            due("turns of -1 / 200 behind tick " + ticks, x.speed(2, 2), 0);
        }
    }

    // ---- 23

    private static void stateOfNone() {
        says(23, "NONE: another what");
        WatchHouse x = Edge.ticked(Due.oneArbor(1), 3);
        Edge.question("state(what)", 0, 9, NONE, x, WatchHouse::state);
        Edge.question("state(what) of a new object", 0, 9, NONE, new WatchHouse(), WatchHouse::state);
        says(23, "The balance has a PLACE x and a RUN v, 0 at first; the LEVER stands at -1 at first");
        due("x", Edge.going(1).state(2), 0);
        due("v", Edge.going(1).state(3), 0);
        due("the LEVER", Edge.going(1).state(4), -1);
    }

    private static void springEnds() {
        says(23, "0 for k above 7, else point k and (point k + 1 less point k) * f >> 8");
        WatchHouse x = sprung(31);
        due("LET DOWN", x.state(6), 31 * 64);
        due("TORQUE", x.state(5), 2001 + (-1001 * 192 >> 8));
        Due.runToTick(x, 32);
        due("LET DOWN", x.state(6), 2048);
        due("TORQUE, k being 8", x.state(5), 0);
        due("run(1000)", x.run(1000), 0);
        x.wind(1);
        due("LET DOWN", x.state(6), 2047);
        due("TORQUE, k being 7 and f 255", x.state(5), 2001 + (-1001 * 255 >> 8));
        x.wind(255);
        due("TORQUE, k being 7 and f 0", x.state(5), 2001);
        x.wind(1);
        due("TORQUE, k being 6 and f 255", x.state(5), 3000 + (-999 * 255 >> 8));
        x.wind(100000);
        due("TORQUE, k and f being 0", x.state(5), 9000);
    }

    private static void farLetDown() {
        says(23, "0 for k above 7");
        WatchHouse x = Edge.arbors(2);
        x.escape(0, 1);
        x.mesh(0, 200, 1, 1, 0);
        x.barrel(1);
        x.balance(4096, 0, 1000, WIDE);
        for (int k = 0; k <= 8; k++) {
            x.torque(k, 1000000);
        }
        Edge.ticked(x, 1);
        due("LET DOWN by 100 turns", x.state(6), 25600);
        due("TORQUE", x.state(5), 0);
        due("run(1000)", x.run(1000), 0);
        due("wind(100000)", x.wind(100000), 25600);
        due("TORQUE", x.state(5), 1000000);
    }

    private static void noBarrel() {
        says(23, "Without a barrel, or if it is not known: point 0.");
        WatchHouse x = Due.oneArbor(1);
        x.torque(1, 77);
        Edge.ticked(x, 5);
        due("TORQUE without a barrel", x.state(5), 5000);
        due("TORQUE of one that is not known", unknownBarrel().state(5), 5000);
        says(23, "6 LET DOWN (0 without a barrel that is known)");
        due("LET DOWN without a barrel", x.state(6), 0);
        due("LET DOWN of one that is not known", unknownBarrel().state(6), 0);
        due("TORQUE of a new object", new WatchHouse().state(5), 0);
    }

    private static void letDownCutOff() {
        says(23, "has turned u = 256 * |p| * N / (q * 2 * z), cut off");
        WatchHouse x = Due.oneArbor(3);
        x.arbor();
        x.mesh(0, 5, 1, 7, 0);
        x.barrel(1);
        for (int k = 0; k <= 8; k++) {
            x.torque(k, 5000);
        }
        x.go();
        x.shock(50000);
        for (int ticks = 0; ticks <= 12; ticks++) {
            Due.runToTick(x, ticks);
            due("LET DOWN by -5 / 7 behind tick " + ticks, x.state(6), 256 * 5 * ticks / 42);
        }
    }

    private static void greatestPlace() {
        says(23, "8 the greatest size of x behind the steps since the last tick (0 right behind one)");
        WatchHouse x = Edge.started(1, 0, 0, WIDE, 1);
        due("before any step", x.state(8), 0);
        x.shock(-700);
        x.run(1);
        due("behind x = -700", x.state(8), 700);
        x.shock(800);
        x.run(1);
        due("it stays when x = -599", x.state(8), 700);
        x.shock(899);
        x.run(1);
        due("right behind a tick", x.state(0) * 10 + x.state(8), 10);
        x.run(1);
        due("a step later", x.state(8), x.state(2));
    }

    private static void lockedOrNot() {
        says(23, "9 1 if it is LOCKED, else 0");
        WatchHouse x = Edge.arbors(3);
        x.mesh(0, 1, 1, 2, 0);
        x.mesh(0, 1, 1, 2, 1);
        due("without an escape arbor", x.state(9), 0);
        x.escape(2, 1);
        due("with one that is linked to none", x.state(9), 0);
        x.escape(1, 1);
        due("with one of theirs", x.state(9), 1);
        x.build();
        due("behind build()", x.state(9), 0);
    }

    // ---- 24

    private static void tickRows() {
        says(24, "BAD: none such, i is not below 3000, or no such what");
        WatchHouse x = Edge.ticked(Due.oneArbor(1), 3);
        Edge.question("tick(i, 0) of 3", 0, 2, BAD, x, (y, v) -> y.tick(v, 0));
        Edge.question("tick(i, 1) of 3", 0, 2, BAD, x, (y, v) -> y.tick(v, 1));
        Edge.question("tick(0, what)", 0, 1, BAD, x, (y, v) -> y.tick(0, v));
        due("tick(0, 0) of none", Edge.going(1).tick(0, 0), BAD);
        due("tick(0, 0) of one that does not go", built().tick(0, 0), BAD);
        x.back(0);
        due("tick(0, 0) behind back(0)", x.tick(0, 0), BAD);
    }

    private static void tickRowsKept() {
        says(24, "3000 rows are kept");
        WatchHouse x = Due.oneArbor(1);
        x.go();
        x.shock(50000);
        for (int i = 0; i < 200 && x.state(0) < 2900; i++) {
            x.run(400);
        }
        for (int i = 0; i < 1700 && x.state(0) < 3000; i++) {
            x.run(1);
        }
        long step = x.state(1);
        due("N", x.state(0), 3000);
        due("tick(2999, 0), the last that is kept", x.tick(2999, 0), step);
        due("tick(3000, 0)", x.tick(3000, 0), BAD);
        int[] kept = new int[6000];
        for (int i = 0; i < kept.length; i++) {
            kept[i] = x.tick(i / 2, i % 2);
        }
        x.run(200);
        due("N is more", x.state(0) > 3001 ? 1 : 0, 1);
        Edge.question("tick(i, 0)", 0, 2999, BAD, x, (y, v) -> y.tick(v, 0));
        Edge.question("tick(i, 1)", 0, 2999, BAD, x, (y, v) -> y.tick(v, 1));
        for (int i = 0; i < kept.length; i++) {
            due("tick(" + i / 2 + ", " + i % 2 + ") stays", x.tick(i / 2, i % 2), kept[i]);
        }
    }

    private static void tickSwing() {
        says(24, "(the number of this step, from 1 on; the SWING: the greatest size of x behind any step since the tick before, "
            + "this one being of those");
        WatchHouse x = Edge.started(1, 0, 0, WIDE, 1);
        x.shock(9);
        x.run(1);
        due("tick(0, 0), in the first step", x.tick(0, 0), 1);
        due("tick(0, 1), of this step alone", x.tick(0, 1), 9);
        x.run(3);
        x.shock(-309);
        x.run(1);
        due("tick(1, 0)", x.tick(1, 0), 5);
        due("tick(1, 1), this step being the greatest, below 0", x.tick(1, 1), -x.state(2));
        x.shock(300);
        x.shock(299);
        x.run(1);
        due("tick(2, 1), not of the step of the tick before", x.tick(2, 1), x.state(2));
        due("which was a greater one", x.tick(1, 1) > x.tick(2, 1) ? 1 : 0, 1);
    }

    static void all() {
        runNumber();
        runWhenItDoesNotGo();
        mostSteps();
        runFillsTheBook();
        divisionIsDown();
        dragStops();
        banks();
        noTorque();
        leverBelow();
        leverAbove();
        impulses();
        limitedBySpring();
        limitedByTicks();
        shocks();
        limitedByShocks();
        windNumber();
        windNoMore();
        windRefused();
        backNumber();
        backAlone();
        bookRows();
        backFrees();
        backLeavesTheHouse();
        speedOfNone();
        speedNotKnown();
        greatestSpeed();
        lowestTerms();
        allButOne();
        rounds();
        turnsCutOff();
        stateOfNone();
        springEnds();
        farLetDown();
        noBarrel();
        letDownCutOff();
        greatestPlace();
        lockedOrNot();
        tickRows();
        tickRowsKept();
        tickSwing();
    }
}

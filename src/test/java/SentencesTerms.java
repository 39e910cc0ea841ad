/** What the terms say of a movement beside the boundaries, from their first line to part 3; the answers are worked out by hand. */
final class SentencesTerms {
    private static final int BAD = Edge.BAD, NO = Edge.NO, FULL = Edge.FULL, NONE = Edge.NONE;

    private SentencesTerms() {
    }

    private static void says(int promise, String sentence) {
        Edge.says(promise, sentence);
    }

    private static void due(String call, long got, long want) {
        Edge.due(call, got, want);
    }

    private static void speedIs(WatchHouse x, int arbor, long p, long q) {
        due("p of arbor " + arbor, x.speed(arbor, 0), p);
        due("q of arbor " + arbor, x.speed(arbor, 1), q);
    }

    // ---- ahead of part 1

    private static void wholeNumbers() {
        says(22, "All numbers are whole");
        WatchHouse x = Edge.arbors(2);
        x.escape(0, 1);
        x.mesh(0, 2, 1, 3, 1);
        x.torque(0, 1);
        x.go();
        long[] turns = {0, 0, 0, 1, 1, 1, 2};
        for (int ticks = 0; ticks < turns.length; ticks++) {
            due("turns of two thirds by " + ticks + " ticks", x.speed(1, 2), turns[ticks]);
            Edge.beat(x, 1);
        }
    }

    private static void cutOff() {
        says(25, "/ cuts off, % leaves what / leaves");
        WatchHouse x = Edge.arbors(1);
        x.escape(0, 4);
        x.torque(0, 1);
        x.calendar(0, 3, 1, 1, 1);
        x.go();
        for (int ticks = 0; ticks <= 16; ticks++) {
            due("TURNS by " + ticks + " ticks, eight to a turn", x.speed(0, 2), ticks < 8 ? 0 : ticks < 16 ? 1 : 2);
            boolean barred = ticks == 6 || ticks == 7 || ticks == 14 || ticks == 15;
            due("its PART by " + ticks + " ticks is not below 3/4", x.shows(0, 8), barred ? 1 : 0);
            Edge.beat(x, 1);
        }
    }

    private static void changeNothing() {
        says(4, "Answers BAD, NO, FULL change nothing");
        Edge.refuses("mesh(0, 1, 0, 1, 0)", BAD, () -> Edge.arbors(2), x -> x.mesh(0, 1, 0, 1, 0));
        Edge.refuses("run(5)", NO, () -> Edge.arbors(2), x -> x.run(5));
        Edge.refuses("arbor()", FULL, () -> Edge.arbors(24), WatchHouse::arbor);
    }

    private static void builtThenGoes() {
        says(14, "A movement is BUILT, then it GOES");
        WatchHouse x = Edge.arbors(1);
        x.escape(0, 1);
        due("count(6) while it is built", x.count(6), 0);
        x.go();
        due("count(6) behind go()", x.count(6), 1);
        x.back(0);
        due("count(6) behind back(0)", x.count(6), 1);
        x.build();
        due("count(6) behind build()", x.count(6), 0);
    }

    // ---- part 1

    private static void parts() {
        says(6, "THE MOVEMENT has ARBORS (24), LINKS (40) of different arbors, an ESCAPE arbor with TEETH z.");
        WatchHouse x = Edge.arbors(3);
        due("mesh(0, 1, 1, 1, 0)", x.mesh(0, 1, 1, 1, 0), 0);
        due("mesh(1, 1, 1, 1, 0)", x.mesh(1, 1, 1, 1, 0), BAD);
        due("epicycle(0, 1, 1, 1, 2)", x.epicycle(0, 1, 1, 1, 2), 1);
        due("epicycle(0, 1, 1, 1, 1)", x.epicycle(0, 1, 1, 1, 1), BAD);
        due("escape(2, 3)", x.escape(2, 3), 0);
        x.torque(0, 1);
        due("go()", x.go(), 1);
        Edge.beat(x, 5);
        due("turns of three teeth by five ticks", x.speed(2, 2), 0);
        Edge.beat(x, 1);
        due("turns of three teeth by six ticks", x.speed(2, 2), 1);
    }

    private static void meshes() {
        says(4, "A MESH of a with m teeth and b with n: m times the turns of a and n times those of b are 0 together");
        WatchHouse x = Edge.arbors(4);
        x.escape(0, 1);
        x.mesh(0, 3, 1, 5, 0);
        speedIs(x, 1, -3, 5);
        x.mesh(1, 4, 2, 6, 0);
        speedIs(x, 2, 2, 5);
        x.mesh(3, 7, 2, 2, 0);
        speedIs(x, 3, -4, 35);
        due("locked", x.state(9), 0);
        x.mesh(0, 3, 1, 6, 0);
        due("locked by a mesh that does not hold", x.state(9), 1);
    }

    private static void rings() {
        says(4, "a RING: m times those of a are n times those of b");
        WatchHouse x = Edge.arbors(3);
        x.escape(0, 1);
        x.mesh(0, 3, 1, 5, 1);
        speedIs(x, 1, 3, 5);
        x.mesh(2, 10, 1, 4, 1);
        speedIs(x, 2, 6, 25);
        x.mesh(0, 6, 2, 25, 1);
        due("locked by a ring that holds", x.state(9), 0);
        x.mesh(0, 6, 2, 25, 0);
        due("locked by a mesh of the same teeth", x.state(9), 1);
    }

    private static void epicycles() {
        says(5, "An EPICYCLE of a, b and c: m times those of a and n times those of b are together m + n times those of c.");
        WatchHouse x = Edge.arbors(6);
        x.escape(0, 1);
        x.mesh(0, 3, 1, 5, 0);
        x.epicycle(0, 2, 1, 5, 2);
        speedIs(x, 2, -1, 7);
        x.epicycle(3, 2, 0, 3, 1);
        speedIs(x, 3, -3, 1);
        x.epicycle(0, 2, 4, 3, 1);
        speedIs(x, 4, -5, 3);
        x.epicycle(0, 3, 1, 5, 5);
        speedIs(x, 5, 0, 1);
        due("locked", x.state(9), 0);
        x.epicycle(0, 5, 1, 2, 2);
        due("locked by an epicycle that does not hold", x.state(9), 1);
    }

    private static void speeds() {
        says(22, "The SPEED of an arbor is how often it turns while the escape arbor does once: p / q in lowest terms (q above 0), "
            + "or it is not KNOWN: at first that of the escape arbor, 1 / 1, alone.");
        WatchHouse x = Edge.arbors(3);
        speedIs(x, 0, 0, 0);
        x.escape(1, 7);
        speedIs(x, 0, 0, 0);
        speedIs(x, 1, 1, 1);
        x.mesh(1, 12, 2, 8, 0);
        speedIs(x, 2, -3, 2);
        x.escape(2, 7);
        speedIs(x, 1, -2, 3);
        speedIs(x, 2, 1, 1);
        speedIs(x, 0, 0, 0);
    }

    private static void turns() {
        says(22, "N ticks having been, an arbor that is known has turned |p| * N / (q * 2 * z)");
        WatchHouse x = Edge.arbors(3);
        x.escape(0, 3);
        x.mesh(0, 3, 1, 5, 0);
        x.torque(0, 1);
        x.go();
        Edge.beat(x, 9);
        due("turns of -3 / 5 by 9 ticks, six to a turn of the escape arbor", x.speed(1, 2), 0);
        Edge.beat(x, 1);
        due("turns by 10 ticks", x.speed(1, 2), 1);
        Edge.beat(x, 10);
        due("turns by 20 ticks", x.speed(1, 2), 2);
        due("turns of the escape arbor by 20 ticks", x.speed(0, 2), 3);
        due("turns of an arbor that is not known", x.speed(2, 2), 0);
    }

    // ---- part 2

    private static void step() {
        says(15, "it has a STIFF, a DRAG, a GAIN, a BANK. A STEP: v is less by x * STIFF >> 16; then it comes DRAG nearer to 0, "
            + "but not beyond; x is more by v");
        WatchHouse x = Edge.started(4096, 7, 0, 10000000, 0);
        x.shock(1007);
        x.run(1);
        moved(x, 1000, 1000);
        x.run(1);
        moved(x, 1931, 931);
        x.back(0);
        x.shock(-1007);
        x.run(1);
        moved(x, -1000, -1000);
        x.run(1);
        moved(x, -1930, -930);
    }

    private static void moved(WatchHouse x, long place, long run) {
        due("x", x.state(2), place);
        due("v", x.state(3), run);
    }

    private static void ticks() {
        says(15, "Then, if the TORQUE T is above 0, and the lever is at -1, x is not below 0 and v above 0, or the lever is at 1, "
            + "x not above 0 and v below 0, there is a TICK: the lever is at the other one, v is more by T * GAIN >> 16, if v is "
            + "above 0, else less by that; N is one more; a row is told");
        WatchHouse x = Edge.started(1, 0, 32768, 10000000, 1000);
        x.shock(10);
        due("run(1)", x.run(1), 1);
        due("the lever", x.state(4), 1);
        moved(x, 10, 510);
        due("N", x.state(0), 1);
        x.shock(-540);
        due("run(1)", x.run(1), 1);
        due("the lever", x.state(4), -1);
        moved(x, -20, -530);
        due("N", x.state(0), 2);
        due("tick(0, 0)", x.tick(0, 0), 1);
        due("tick(0, 1)", x.tick(0, 1), 10);
        due("tick(1, 0)", x.tick(1, 0), 2);
        due("tick(1, 1)", x.tick(1, 1), 20);
        due("tick(2, 0)", x.tick(2, 0), BAD);
    }

    private static void torque() {
        says(23, "The TORQUE: of points 0 .. 8 (0 at first) with the spring's LET DOWN l: the barrel's arbor (if there is one, and "
            + "it is known) has turned u = 256 * |p| * N / (q * 2 * z), cut off; l = u less what was WOUND. With k = l >> 8 and "
            + "f = l & 255");
        WatchHouse x = Edge.arbors(1);
        x.escape(0, 1);
        x.barrel(0);
        x.torque(0, 1000);
        x.torque(1, 500);
        x.torque(2, 300);
        x.go();
        long[] torques = {1000, 750, 500, 400};
        for (int n = 0; n < torques.length; n++) {
            due("LET DOWN by " + n + " ticks", x.state(6), 128L * n);
            due("TORQUE by " + n + " ticks", x.state(5), torques[n]);
            Edge.beat(x, n < 3 ? 1 : 0);
        }
        due("wind(100)", x.wind(100), 100);
        due("LET DOWN then", x.state(6), 284);
        due("TORQUE then", x.state(5), 478);
    }

    // ---- part 3

    private static void works() {
        says(25, "WORKS (8) hang on arbors. By each tick, by their numbers, those whose arbor is known and has more TURNS than "
            + "before it are TRIPPED (once). Counters of CHRONOGRAPHS (4) come first.");
        WatchHouse x = Edge.arbors(3);
        x.escape(0, 1);
        x.mesh(0, 60, 1, 10, 1);
        x.torque(0, 1);
        x.dial(0, 10);
        x.dial(1, 10);
        x.dial(2, 10);
        x.chronograph(0);
        x.go();
        x.press(0, 0);
        for (int n = 1; n <= 4; n++) {
            Edge.beat(x, 1);
            due("a work on the escape arbor by " + n + " ticks", x.shows(0, 9), n / 2);
            due("a work on an arbor that turns three times by each", x.shows(1, 9), n);
            due("a work on an arbor that is not known", x.shows(2, 9), 0);
            due("the chronograph's count", x.hand(0, 1), n);
        }
    }

    private static void calendar() {
        says(11, "A CALENDAR shows a day, month, year, week day (0 Monday), at first those of a day that is true");
        WatchHouse x = Edge.arbors(1);
        x.calendar(0, 0, 16, 11, 2026);
        x.calendar(0, 3, 29, 2, 2000);
        int[] monday = {16, 11, 2026, 0, 16, 11, 2026, 0, 0, 0};
        int[] tuesday = {29, 2, 2000, 1, 29, 2, 2000, 0, 0, 0};
        for (int what = 0; what < monday.length; what++) {
            due("shows(0, " + what + ")", x.shows(0, what), monday[what]);
            due("shows(1, " + what + ")", x.shows(1, what), tuesday[what]);
        }
    }

    private static void lengths() {
        says(25, "LENGTHS: kind 0: 31; 1: 30 of months 2, 4, 6, 9, 11, else 31; 2: 28, or 29 if the year can be divided by 4, of "
            + "month 2, else as kind 1; 3: the true ones.");
        int[][] behind28 = {{29, 2}, {29, 2}, {29, 2}, {1, 3}};
        for (int kind = 0; kind < 4; kind++) {
            WatchHouse x = Edge.arbors(1);
            x.escape(0, 1);
            x.torque(0, 1);
            x.calendar(0, kind, 28, 2, 1900);
            x.go();
            Edge.beat(x, 2);
            due("the day behind 28.2.1900 of kind " + kind, x.shows(0, 0), behind28[kind][0]);
            due("the month behind 28.2.1900 of kind " + kind, x.shows(0, 1), behind28[kind][1]);
        }
    }

    private static void strikes() {
        says(26, "it STRIKES: kind 0 (rack): as often as the hour; 1 (count wheel): as its place, which is the next then");
        WatchHouse x = Edge.arbors(1);
        x.escape(0, 1);
        x.torque(0, 1);
        x.strike(0, 0);
        x.strike(0, 1);
        x.go();
        x.correct(0, 0, 6);
        x.correct(1, 0, 6);
        x.correct(1, 1, 9);
        Edge.beat(x, 2);
        due("the rack", x.struck(0, 2), 7);
        due("the count wheel", x.struck(1, 2), 9);
        due("its place then", x.shows(1, 1), 10);
        due("the rack's place", x.shows(0, 1), 1);
    }

    private static void chronograph() {
        says(27, "A CHRONOGRAPH: ZERO (0), RUNS (1) or STOPPED (2), with a count and a split, 0 at first");
        WatchHouse x = Edge.arbors(1);
        x.escape(0, 1);
        x.chronograph(2);
        for (int what = 0; what < 4; what++) {
            due("hand(0, " + what + ") at first", x.hand(0, what), 0);
        }
        x.go();
        says(18, "Buttons: 0: ZERO, STOPPED: it RUNS; RUNS: STOPPED. 1: STOPPED: ZERO");
        due("press(0, 0) at ZERO", x.press(0, 0), 1);
        due("press(0, 0) when it RUNS", x.press(0, 0), 2);
        due("press(0, 0) when STOPPED", x.press(0, 0), 1);
        x.press(0, 0);
        due("press(0, 1) when STOPPED", x.press(0, 1), 0);
        due("hand(0, 0) then", x.hand(0, 0), 0);
    }

    // ---- ahead of the calls

    private static void building() {
        says(2, "Ahead of the calls `build`, `arbor`, `mesh`, `epicycle`, `escape`, `balance`, `barrel`, `torque`, `dial`, `calendar`, "
            + "`strike`, `chronograph`, `go` the interface says: ---- building: NO in all of these but build(), when the movement goes.");
        WatchHouse x = Edge.going(3);
        due("arbor()", x.arbor(), NO);
        due("mesh(0, 1, 1, 1, 0)", x.mesh(0, 1, 1, 1, 0), NO);
        due("epicycle(0, 1, 1, 1, 2)", x.epicycle(0, 1, 1, 1, 2), NO);
        due("escape(0, 1)", x.escape(0, 1), NO);
        due("balance(1, 0, 0, 1)", x.balance(1, 0, 0, 1), NO);
        due("barrel(-1)", x.barrel(-1), NO);
        due("torque(0, 0)", x.torque(0, 0), NO);
        due("dial(0, 2)", x.dial(0, 2), NO);
        due("calendar(0, 0, 1, 1, 1)", x.calendar(0, 0, 1, 1, 1), NO);
        due("strike(0, 0)", x.strike(0, 0), NO);
        due("chronograph(0)", x.chronograph(0), NO);
        due("go()", x.go(), NO);
        due("build()", x.build(), 0);
        due("arbor() behind build()", x.arbor(), 0);
    }

    private static void going() {
        says(15, "Ahead of the calls `run`, `shock`, `wind`, `press`, `correct`, `trip`, `back` the interface says: ---- a movement "
            + "that goes: NO in all of these, when it does not.");
        WatchHouse x = Edge.arbors(1);
        x.escape(0, 1);
        x.barrel(0);
        x.chronograph(0);
        x.strike(0, 0);
        due("run(0)", x.run(0), NO);
        due("shock(0)", x.shock(0), NO);
        due("wind(0)", x.wind(0), NO);
        due("press(0, 0)", x.press(0, 0), NO);
        due("correct(0, 0, 1)", x.correct(0, 0, 1), NO);
        due("trip(0)", x.trip(0), NO);
        due("back(0)", x.back(0), NO);
    }

    private static void questions() {
        says(22, "Ahead of the calls `speed`, `state`, `tick`, `shows`, `struck`, `hand`, `count` the interface says: ---- questions: "
            + "of a movement that does not go, too.");
        WatchHouse x = Edge.arbors(2);
        x.escape(1, 2);
        x.mesh(1, 2, 0, 3, 0);
        x.torque(0, 12);
        x.strike(0, 1);
        x.chronograph(0);
        due("speed(0, 0)", x.speed(0, 0), -2);
        due("speed(0, 1)", x.speed(0, 1), 3);
        due("state(4)", x.state(4), -1);
        due("state(5)", x.state(5), 12);
        due("tick(0, 0)", x.tick(0, 0), BAD);
        due("shows(0, 0)", x.shows(0, 0), 12);
        due("struck(0, 0)", x.struck(0, 0), BAD);
        due("hand(0, 0)", x.hand(0, 0), 0);
        due("count(0)", x.count(0), 2);
        due("speed(2, 0)", x.speed(2, 0), NONE);
    }

    private static void ofTheHouse() {
        says(29, "Ahead of the calls `teeth`, `search`, `train`, `error`, `chain`, `size`, `limit`, `ways`, `rate`, `verdict`, `change`, "
            + "`merge`, `conflict`, `settle`, `setting`, `version`, `never` the interface says: ---- the house's own.");
        houseAnswers("of a movement that does not go", new WatchHouse());
        houseAnswers("of one that goes", Edge.going(1));
    }

    private static void houseAnswers(String when, WatchHouse x) {
        due("teeth(0, 24, 24) " + when, x.teeth(0, 24, 24), 0);
        due("search(7, 2, 1) " + when, x.search(7, 2, 1), 1);
        due("train(0, 1) " + when, x.train(0, 1), 7);
        due("error(0) " + when, x.error(0), 1);
        due("error(1) " + when, x.error(1), 14);
        due("size(1, 5, 0, 1) " + when, x.size(1, 5, 0, 1), 0);
        due("limit(1) " + when, x.limit(1), 6);
        due("ways(5, 6) " + when, x.ways(5, 6), 2);
        due("chain() " + when, x.chain(), 1);
        due("rate(1, 9) " + when, x.rate(1, 9), 0);
        due("verdict(0) " + when, x.verdict(0), 9);
        due("change(0, 0, 4) " + when, x.change(0, 0, 4), 0);
        due("merge(0) " + when, x.merge(0), 0);
        due("conflict(0, 0) " + when, x.conflict(0, 0), 0);
        due("settle(0, 0, 0) " + when, x.settle(0, 0, 0), NO);
        due("setting(1, 0) " + when, x.setting(1, 0), 4);
        due("version(0) " + when, x.version(0), 1);
        due("never(0) " + when, x.never(0), 0);
    }

    static void all() {
        wholeNumbers();
        cutOff();
        changeNothing();
        builtThenGoes();
        parts();
        meshes();
        rings();
        epicycles();
        speeds();
        turns();
        step();
        ticks();
        torque();
        works();
        calendar();
        lengths();
        strikes();
        chronograph();
        building();
        going();
        questions();
        ofTheHouse();
    }
}

/** What promises 2 to 28 say beside their boundaries; the answers are worked out by hand. */
final class SentencesMovement {
    private static final int BAD = Edge.BAD, NO = Edge.NO, FULL = Edge.FULL;

    private SentencesMovement() {
    }

    private static void says(int promise, String sentence) {
        Edge.says(promise, sentence);
    }

    private static void due(String call, long got, long want) {
        Edge.due(call, got, want);
    }

    /** One arbor, two ticks to a turn of it; it does not go yet. */
    private static WatchHouse simple() {
        WatchHouse x = Edge.arbors(1);
        x.escape(0, 1);
        x.torque(0, 1);
        return x;
    }

    /** Carried out, a call marked (B) has one row more in the book. */
    private static void hasRow(WatchHouse x, int rows) {
        due("rows of the book", x.count(4), rows);
    }

    // ---- 3 to 14

    private static void arbor() {
        says(3, "An arbor: its number. NO. FULL.");
        WatchHouse x = new WatchHouse();
        due("arbor()", x.arbor(), 0);
        due("arbor()", x.arbor(), 1);
        due("count(0)", x.count(0), 2);
        due("arbor() when it goes", Edge.going(1).arbor(), NO);
        due("arbor(), the 25th", Edge.arbors(24).arbor(), FULL);
    }

    private static void links() {
        says(4, "A MESH, or, with ring 1, a RING: its number as a link. BAD: no such arbors, both are the same, m or n is not "
            + "1 .. 200, ring not 0, 1. NO. FULL.");
        WatchHouse x = Edge.arbors(3);
        due("mesh(0, 1, 1, 2, 0)", x.mesh(0, 1, 1, 2, 0), 0);
        due("mesh(0, 1, 2, 2, 1)", x.mesh(0, 1, 2, 2, 1), 1);
        x.escape(0, 1);
        due("p of the mesh", x.speed(1, 0), -1);
        due("p of the ring", x.speed(2, 0), 1);
        due("mesh() when it goes", Edge.going(2).mesh(0, 1, 1, 2, 0), NO);
        says(5, "An EPICYCLE: its number as a link. BAD: no such arbors, two are the same, m or n is not 1 .. 200. NO. FULL.");
        due("epicycle(0, 1, 1, 2, 2)", x.epicycle(0, 1, 1, 2, 2), 2);
        due("count(1)", x.count(1), 3);
        due("epicycle() when it goes", Edge.going(3).epicycle(0, 1, 1, 2, 2), NO);
        for (int i = 3; i < 40; i++) {
            x.epicycle(0, 1, 1, 2, 2);
        }
        due("epicycle(), the 41st link", x.epicycle(0, 1, 1, 2, 2), FULL);
        says(4, "NO. FULL.");
        due("mesh(), the 41st link", x.mesh(0, 1, 1, 2, 0), FULL);
    }

    private static void escape() {
        says(6, "The ESCAPE arbor (another one before is none any more), with its TEETH: 0.");
        WatchHouse x = Edge.arbors(2);
        due("escape(0, 9)", x.escape(0, 9), 0);
        due("escape(1, 2)", x.escape(1, 2), 0);
        due("q of the one before", x.speed(0, 1), 0);
        due("q of the escape arbor", x.speed(1, 1), 1);
        x.torque(0, 1);
        x.go();
        Edge.beat(x, 4);
        due("its turns by four ticks, two teeth", x.speed(1, 2), 1);
    }

    private static void balance() {
        says(7, "The balance: 0.");
        WatchHouse x = simple();
        due("balance(2000, 3, 32768, 500)", x.balance(2000, 3, 32768, 500), 0);
        due("torque(0, 20)", x.torque(0, 20), 1);
        x.go();
        x.shock(403);
        x.run(1);
        due("x", x.state(2), 400);
        due("v by DRAG 3 and GAIN 32768", x.state(3), 410);
        x.run(1);
        due("x at BANK 500", x.state(2), 500);
        due("v by STIFF 2000 and DRAG 3", x.state(3), -395);
        due("KNOCKS", x.state(7), 1);
    }

    private static void spring() {
        says(8, "The barrel's arbor (-1: there is no barrel, as at first): 0.");
        WatchHouse x = simple();
        due("barrel(0)", x.barrel(0), 0);
        says(9, "Point k of the torque: what it was.");
        due("torque(0, 70)", x.torque(0, 70), 1);
        due("torque(1, 30)", x.torque(1, 30), 0);
        due("torque(1, 40)", x.torque(1, 40), 30);
        says(8, "The barrel's arbor");
        x.go();
        Edge.beat(x, 1);
        due("LET DOWN by half a turn", x.state(6), 128);
        due("TORQUE by half a turn", x.state(5), 55);
        x.build();
        x.arbor();
        x.escape(0, 1);
        due("barrel(-1)", x.barrel(-1), 0);
        x.torque(0, 70);
        x.go();
        Edge.beat(x, 1);
        due("LET DOWN without a barrel", x.state(6), 0);
        due("TORQUE without a barrel", x.state(5), 70);
    }

    private static void hung() {
        WatchHouse x = simple();
        says(10, "A DIAL: its number as a work. BAD: no such arbor; marks are not 2 .. 1000. NO. FULL.");
        due("dial(0, 2)", x.dial(0, 2), 0);
        says(11, "A CALENDAR: its number as a work. BAD: no such arbor; kind is not 0 .. 3; no day of years 1 .. 9999. NO. FULL.");
        due("calendar(0, 1, 30, 4, 1999)", x.calendar(0, 1, 30, 4, 1999), 1);
        says(12, "A STRIKE: its number as a work. BAD: no such arbor; kind is not 0, 1. NO. FULL.");
        due("strike(0, 1)", x.strike(0, 1), 2);
        for (int i = 3; i < 8; i++) {
            x.dial(0, 2);
        }
        due("strike(), the ninth work", x.strike(0, 1), FULL);
        says(10, "NO. FULL.");
        due("dial(), the ninth work", x.dial(0, 2), FULL);
        says(11, "NO. FULL.");
        due("calendar(), the ninth work", x.calendar(0, 0, 1, 1, 1), FULL);
        says(13, "A CHRONOGRAPH: its number. BAD: kind is not 0 .. 2. NO. FULL.");
        for (int i = 0; i < 4; i++) {
            due("chronograph(" + i % 3 + ")", x.chronograph(i % 3), i);
        }
        due("chronograph(), the fifth", x.chronograph(0), FULL);
        x.go();
        due("chronograph() when it goes", x.chronograph(0), NO);
        Edge.beat(x, 2);
        due("the dial", x.shows(0, 0), 1);
        due("the calendar", x.shows(1, 1), 5);
        due("the strike", x.shows(2, 0), 1);
    }

    private static void go() {
        says(14, "The movement GOES: how many arbors are known.");
        WatchHouse x = Edge.arbors(4);
        x.escape(0, 1);
        x.mesh(0, 1, 2, 1, 0);
        due("go()", x.go(), 2);
        due("count(6)", x.count(6), 1);
    }

    // ---- 15 to 21

    private static void run() {
        says(15, "(B) n STEPS: how many ticks were in these. BAD: n is not 0 .. 20000. NO. FULL: there would be more than 200000, "
            + "or the book.");
        WatchHouse x = Edge.started(1, 0, 0, 150, 1);
        x.shock(100);
        // x: 100 (tick), 150 (knock), 50, -50 (tick), -149, -150 (knock), -51, 49 (tick).
        due("run(4)", x.run(4), 2);
        hasRow(x, 2);
        due("run(3)", x.run(3), 0);
        due("run(1)", x.run(1), 1);
        hasRow(x, 4);
        due("steps", x.state(1), 8);
        due("x", x.state(2), 49);
        due("KNOCKS", x.state(7), 2);
        due("run(0)", x.run(0), 0);
        hasRow(x, 5);
    }

    private static void shock() {
        says(16, "(B) v is more by n: what it is then. BAD: n is not -1000000 .. 1000000. NO.");
        WatchHouse x = Edge.going(1);
        due("shock(300)", x.shock(300), 300);
        due("shock(-500)", x.shock(-500), -200);
        due("v", x.state(3), -200);
        due("x", x.state(2), 0);
        hasRow(x, 2);
        due("shock() of one that does not go", Edge.arbors(1).shock(1), NO);
    }

    private static void wind() {
        says(17, "(B) The spring is wound by n 256ths, but no more than it is let down: by how many. BAD: n is not 0 .. 100000. "
            + "NO; also without a barrel that is known.");
        WatchHouse x = simple();
        x.barrel(0);
        x.torque(1, 1);
        x.go();
        due("wind(10) at first", x.wind(10), 0);
        hasRow(x, 1);
        Edge.beat(x, 1);
        due("wind(10)", x.wind(10), 10);
        due("LET DOWN", x.state(6), 118);
        due("wind(200)", x.wind(200), 118);
        due("LET DOWN", x.state(6), 0);
        hasRow(x, 6);
        due("wind(1) without a barrel", Edge.going(1).wind(1), NO);
    }

    private static void press() {
        says(18, "(B) A chronograph's button: its state then. BAD: no such chronograph; button is not 0 .. 2. NO; also as told.");
        WatchHouse x = simple();
        x.chronograph(1);
        due("press(0, 0) before it goes", x.press(0, 0), NO);
        x.go();
        due("press(0, 1) at ZERO", x.press(0, 1), NO);
        hasRow(x, 0);
        due("press(0, 0)", x.press(0, 0), 1);
        Edge.beat(x, 3);
        due("the count", x.hand(0, 1), 3);
        due("press(0, 1) when it RUNS, of kind 1", x.press(0, 1), 1);
        due("the count", x.hand(0, 1), 0);
        due("press(0, 0)", x.press(0, 0), 2);
        due("press(0, 2) of kind 1", x.press(0, 2), NO);
        hasRow(x, 12);
    }

    private static void correct() {
        says(19, "(B) What a work shows is corrected: 0.");
        WatchHouse x = Edge.arbors(1);
        x.escape(0, 2);
        x.torque(0, 1);
        x.dial(0, 12);
        x.calendar(0, 0, 1, 1, 1);
        x.strike(0, 0);
        x.go();
        int[][] corrections = {{0, 0, 11}, {1, 0, 31}, {1, 1, 12}, {1, 2, 1999}, {1, 3, 6}, {2, 0, 7}, {2, 1, 8}, {2, 2, 1}};
        for (int i = 0; i < corrections.length; i++) {
            int[] c = corrections[i];
            due("correct(" + c[0] + ", " + c[1] + ", " + c[2] + ")", x.correct(c[0], c[1], c[2]), 0);
            hasRow(x, i + 1);
        }
        for (int[] c : corrections) {
            due("shows(" + c[0] + ", " + c[1] + ")", x.shows(c[0], c[1]), c[2]);
        }
        due("the true day", x.shows(1, 4), 1);
        says(19, "BAD: no such work, what, or number for it. NO; also when it is BARRED.");
        Edge.beat(x, 3);
        due("correct(1, 0, 5) when BARRED", x.correct(1, 0, 5), NO);
        due("correct(1, 0, 32) when BARRED", x.correct(1, 0, 32), BAD);
        due("correct(0, 0, 5) of a dial there", x.correct(0, 0, 5), 0);
        Edge.beat(x, 1);
        due("correct(1, 0, 5) behind the trip", x.correct(1, 0, 5), 0);
    }

    private static void trip() {
        says(20, "(B) A strike strikes at once (silent or not; the hour stays): how often. BAD: no such work, or it is no strike. NO.");
        WatchHouse x = simple();
        x.strike(0, 0);
        x.strike(0, 1);
        x.dial(0, 2);
        due("trip(0) before it goes", x.trip(0), NO);
        x.go();
        due("trip(0)", x.trip(0), 12);
        due("trip(1)", x.trip(1), 1);
        due("trip(1) again", x.trip(1), 2);
        due("the hour", x.shows(0, 0), 12);
        due("the place", x.shows(1, 1), 3);
        due("trip(2) of a dial", x.trip(2), BAD);
        hasRow(x, 3);
        due("rows of strikes", x.count(5), 3);
        due("shows(0, 9), by ticks alone", x.shows(0, 9), 0);
    }

    private static void back() {
        says(21, "The movement is as it was behind the first n rows of the book, which has these alone then: 0. BAD: n is not 0 .. "
            + "how many there are. NO.");
        WatchHouse x = simple();
        x.dial(0, 9);
        x.chronograph(0);
        x.go();
        x.press(0, 0);
        Edge.beat(x, 4);
        x.correct(0, 0, 8);
        due("rows of the book", x.count(4), 14);
        due("back(7)", x.back(7), 0);
        hasRow(x, 7);
        due("N", x.state(0), 2);
        due("the lever", x.state(4), -1);
        due("the dial", x.shows(0, 0), 1);
        due("the count", x.hand(0, 1), 2);
        due("tick(1, 0)", x.tick(1, 0), 2);
        due("tick(2, 0)", x.tick(2, 0), BAD);
        due("back(8)", x.back(8), BAD);
        Edge.beat(x, 2);
        due("N when it goes on", x.state(0), 4);
        due("the dial then", x.shows(0, 0), 2);
    }

    // ---- 22 to 28

    private static void speed() {
        says(22, "Of an arbor: 0 p, 1 q of its SPEED, 2 its TURNS (all 0 if it is not known)");
        WatchHouse x = Edge.arbors(3);
        x.escape(0, 1);
        x.mesh(0, 20, 1, 8, 0);
        x.torque(0, 1);
        x.go();
        Edge.beat(x, 5);
        long[][] told = {{1, 1, 2}, {-5, 2, 6}, {0, 0, 0}};
        for (int arbor = 0; arbor < 3; arbor++) {
            for (int what = 0; what < 3; what++) {
                due("speed(" + arbor + ", " + what + ")", x.speed(arbor, what), told[arbor][what]);
            }
        }
    }

    private static void state() {
        says(23, "Of the whole: 0 N, 1 steps, 2 x, 3 v, 4 LEVER, 5 TORQUE, 6 LET DOWN (0 without a barrel that is known), 7 KNOCKS, "
            + "8 the greatest size of x behind the steps since the last tick (0 right behind one), 9 1 if it is LOCKED, else 0");
        WatchHouse x = Edge.arbors(1);
        x.escape(0, 1);
        x.balance(1, 0, 0, 150);
        x.barrel(0);
        x.torque(0, 1000);
        x.torque(1, 500);
        x.go();
        x.shock(100);
        x.run(3);
        long[] told = {1, 3, 50, -100, 1, 750, 128, 1, 150, 0};
        for (int what = 0; what < told.length; what++) {
            due("state(" + what + ")", x.state(what), told[what]);
        }
    }

    private static void tickRows() {
        says(24, "Of row i of the ticks: 0 the step, 1 the SWING.");
        WatchHouse x = Edge.started(1, 0, 0, 150, 1);
        x.shock(100);
        x.run(8);
        int[][] rows = {{1, 100}, {4, 150}, {8, 150}};
        for (int i = 0; i < rows.length; i++) {
            due("tick(" + i + ", 0)", x.tick(i, 0), rows[i][0]);
            due("tick(" + i + ", 1)", x.tick(i, 1), rows[i][1]);
        }
        due("tick(3, 0)", x.tick(3, 0), BAD);
    }

    private static void shows() {
        says(25, "What a work shows: numbered as for correct(); of a CALENDAR also 4, 5, 6 the true day, month, year, 7 how often it "
            + "was WRONG, 8 1 if it is BARRED, else 0; of each 9 how often it was tripped by ticks.");
        WatchHouse x = simple();
        x.calendar(0, 0, 30, 4, 2023);
        x.dial(0, 2);
        x.strike(0, 1);
        x.go();
        Edge.beat(x, 7);
        // Behind three trips: the true day is 3.5.2023, shown is 2.5.2023; it was a Sunday at first.
        int[] shown = {2, 5, 2023, 2, 3, 5, 2023, 3, 0, 3};
        for (int what = 0; what < shown.length; what++) {
            due("shows(0, " + what + ")", x.shows(0, what), shown[what]);
        }
        due("shows(1, 0)", x.shows(1, 0), 1);
        due("shows(1, 9)", x.shows(1, 9), 3);
        due("shows(2, 0)", x.shows(2, 0), 3);
        due("shows(2, 1)", x.shows(2, 1), 4);
        due("shows(2, 2)", x.shows(2, 2), 0);
        due("shows(2, 9)", x.shows(2, 9), 3);
    }

    private static void struck() {
        says(26, "Of row i of the strikes: 0 N, 1 the work, 2 how often.");
        WatchHouse x = simple();
        x.dial(0, 2);
        x.strike(0, 1);
        x.strike(0, 0);
        x.go();
        Edge.beat(x, 4);
        x.trip(1);
        int[][] rows = {{2, 1, 1}, {2, 2, 1}, {4, 1, 2}, {4, 2, 2}, {4, 1, 3}};
        for (int i = 0; i < rows.length; i++) {
            for (int what = 0; what < 3; what++) {
                due("struck(" + i + ", " + what + ")", x.struck(i, what), rows[i][what]);
            }
        }
        due("struck(5, 0)", x.struck(5, 0), BAD);
    }

    private static void hand() {
        says(27, "Of a chronograph: 0 its state, 1 count, 2 split, 3 1 if held, else 0.");
        WatchHouse x = simple();
        x.chronograph(0);
        x.chronograph(2);
        x.go();
        x.press(1, 0);
        Edge.beat(x, 3);
        x.press(1, 2);
        Edge.beat(x, 2);
        x.press(1, 0);
        int[] told = {2, 5, 3, 1};
        for (int what = 0; what < 4; what++) {
            due("hand(0, " + what + ")", x.hand(0, what), 0);
            due("hand(1, " + what + ")", x.hand(1, what), told[what]);
        }
    }

    private static void count() {
        says(28, "How many: 0 arbors, 1 links, 2 works, 3 chronographs, 4 rows of the book, 5 rows of strikes (told), 6 1 if it goes, "
            + "else 0.");
        WatchHouse x = Edge.arbors(7);
        x.escape(0, 1);
        for (int i = 1; i < 6; i++) {
            x.mesh(0, 1, i, 1, 0);
        }
        for (int i = 0; i < 4; i++) {
            x.strike(0, 0);
        }
        x.chronograph(0);
        x.chronograph(0);
        x.go();
        x.shock(1);
        x.trip(0);
        x.trip(1);
        int[] told = {7, 5, 4, 2, 3, 2, 1};
        for (int what = 0; what < told.length; what++) {
            due("count(" + what + ")", x.count(what), told[what]);
        }
    }

    static void all() {
        arbor();
        links();
        escape();
        balance();
        spring();
        hung();
        go();
        run();
        shock();
        wind();
        press();
        correct();
        trip();
        back();
        speed();
        state();
        tickRows();
        shows();
        struck();
        hand();
        count();
    }
}

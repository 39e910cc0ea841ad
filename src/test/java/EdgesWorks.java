import java.util.function.Supplier;

/** Boundaries of promises 18 to 20 and 25 to 28: one method for each sentence. */
final class EdgesWorks {
    private static final int BAD = Edge.BAD, NO = Edge.NO, FULL = Edge.FULL;
    private static final int ZERO = 0, RUNS = 1, STOPPED = 2;
    private static final String FIRST = "of several the one named first is answered";
    private static final String GOING_ONLY = "NO in all of these, when it does not";
    private static final String FULL_BOOK = "2000 at most: when it has so many, one that would be carried out is FULL (asked last)";

    private EdgesWorks() {
    }

    private static void says(int promise, String sentence) {
        Edge.says(promise, sentence);
    }

    private static void due(String call, long got, long want) {
        Edge.due(call, got, want);
    }

    private static void refuses(String call, long want, Supplier<WatchHouse> made, Edge.Call asked) {
        Edge.refuses(call, want, made, asked);
    }

    // ---- 18

    /** A chronograph of each kind; it does not go yet. */
    private static WatchHouse chronographs() {
        WatchHouse x = Due.oneArbor(1);
        for (int kind = 0; kind < 3; kind++) {
            x.chronograph(kind);
        }
        return x;
    }

    /** All of them brought to a state by button 0, with three counted when they are not at ZERO, and held or not. */
    private static WatchHouse chronographs(int state, boolean held) {
        WatchHouse x = chronographs();
        x.go();
        for (int c = 0; c < 3 && state != ZERO; c++) {
            x.press(c, 0);
        }
        x.shock(50000);
        Due.runToTick(x, 3);
        if (held) {
            x.press(2, 2);
            Due.runToTick(x, 5);
        }
        for (int c = 0; c < 3 && state == STOPPED; c++) {
            x.press(c, 0);
        }
        return x;
    }

    private static void handIs(String when, WatchHouse x, int c, int... want) {
        for (int what = 0; what < 4; what++) {
            due("hand(" + c + ", " + what + ") " + when, x.hand(c, what), want[what]);
        }
    }

    private static void pressNumbers() {
        says(18, "no such chronograph");
        Edge.range("press(chronograph, 0)", 0, 2, RUNS, () -> chronographs(ZERO, false), (x, v) -> x.press(v, 0));
        refuses("press(0, 0) without chronographs", BAD, () -> Edge.going(1), x -> x.press(0, 0));
        says(18, "button is not 0 .. 2");
        Edge.outside("press(2, button)", 0, 2, () -> chronographs(RUNS, false), (x, v) -> x.press(2, v));
        due("press(2, 0)", chronographs(RUNS, false).press(2, 0), STOPPED);
        due("press(2, 2)", chronographs(RUNS, false).press(2, 2), RUNS);
        says(18, GOING_ONLY);
        refuses("press(0, 0)", NO, EdgesWorks::chronographs, x -> x.press(0, 0));
    }

    private static void buttonZero() {
        says(18, "0: ZERO, STOPPED: it RUNS; RUNS: STOPPED.");
        for (int c = 0; c < 3; c++) {
            due("press(" + c + ", 0) at ZERO", chronographs(ZERO, false).press(c, 0), RUNS);
            due("press(" + c + ", 0) when it RUNS", chronographs(RUNS, false).press(c, 0), STOPPED);
            due("press(" + c + ", 0) when STOPPED", chronographs(STOPPED, false).press(c, 0), RUNS);
        }
        WatchHouse x = chronographs(RUNS, true);
        due("press(2, 0) when it RUNS and is held", x.press(2, 0), STOPPED);
        handIs("STOPPED and held", x, 2, STOPPED, 5, 3, 1);
        due("press(2, 0) when STOPPED and held", x.press(2, 0), RUNS);
        handIs("RUNS and held", x, 2, RUNS, 5, 3, 1);
    }

    private static void buttonOne() {
        says(18, "1: STOPPED: ZERO, the count 0; RUNS, of kind 1: the count 0; but held: NO.");
        for (int c = 0; c < 3; c++) {
            WatchHouse x = chronographs(STOPPED, false);
            due("press(" + c + ", 1) when STOPPED", x.press(c, 1), ZERO);
            handIs("at ZERO again", x, c, ZERO, 0, 0, 0);
        }
        WatchHouse x = chronographs(RUNS, false);
        due("press(1, 1) when it RUNS", x.press(1, 1), RUNS);
        handIs("when it RUNS on", x, 1, RUNS, 0, 0, 0);
        Due.runToTick(x, 4);
        handIs("a tick later", x, 1, RUNS, 1, 1, 0);
        refuses("press(2, 1) when STOPPED, but held", NO, () -> chronographs(STOPPED, true), y -> y.press(2, 1));
        refuses("press(2, 1) when it RUNS and is held", NO, () -> chronographs(RUNS, true), y -> y.press(2, 1));
    }

    private static void buttonTwo() {
        says(18, "2, of kind 2 alone: held: no more so (the split is the count); not held, RUNS or STOPPED: held.");
        WatchHouse x = chronographs(RUNS, false);
        due("press(2, 2) when it RUNS", x.press(2, 2), RUNS);
        handIs("when it RUNS and is held", x, 2, RUNS, 3, 3, 1);
        Due.runToTick(x, 5);
        handIs("two ticks later", x, 2, RUNS, 5, 3, 1);
        due("press(2, 2) when held", x.press(2, 2), RUNS);
        handIs("when it is held no more", x, 2, RUNS, 5, 5, 0);
        WatchHouse y = chronographs(STOPPED, false);
        due("press(2, 2) when STOPPED", y.press(2, 2), STOPPED);
        handIs("when STOPPED and held", y, 2, STOPPED, 3, 3, 1);
        due("press(2, 2) when STOPPED and held", y.press(2, 2), STOPPED);
        handIs("when it is held no more", y, 2, STOPPED, 3, 3, 0);
        WatchHouse z = chronographs(STOPPED, true);
        z.press(2, 2);
        handIs("the split is the count", z, 2, STOPPED, 5, 5, 0);
    }

    private static void otherButtons() {
        says(18, "All others: NO.");
        for (int kind = 0; kind < 3; kind++) {
            int c = kind;
            refuses("press(" + c + ", 1) at ZERO", NO, () -> chronographs(ZERO, false), x -> x.press(c, 1));
            refuses("press(" + c + ", 2) at ZERO", NO, () -> chronographs(ZERO, false), x -> x.press(c, 2));
            if (kind != 1) {
                refuses("press(" + c + ", 1) when it RUNS", NO, () -> chronographs(RUNS, false), x -> x.press(c, 1));
            }
            if (kind != 2) {
                refuses("press(" + c + ", 2) when it RUNS", NO, () -> chronographs(RUNS, false), x -> x.press(c, 2));
                refuses("press(" + c + ", 2) when STOPPED", NO, () -> chronographs(STOPPED, false), x -> x.press(c, 2));
            }
        }
    }

    private static void pressNamedFirst() {
        Supplier<WatchHouse> full = () -> Edge.fullBook(chronographs(RUNS, false));
        says(18, FIRST);
        refuses("press(3, 0) when it does not go", BAD, EdgesWorks::chronographs, x -> x.press(3, 0));
        refuses("press(0, 3) when it does not go", BAD, EdgesWorks::chronographs, x -> x.press(0, 3));
        refuses("press(0, 3) when the book is full", BAD, full, x -> x.press(0, 3));
        refuses("press(0, 1) when the book is full", NO, full, x -> x.press(0, 1));
        says(18, FULL_BOOK);
        refuses("press(0, 0)", FULL, full, x -> x.press(0, 0));
        refuses("press(1, 1)", FULL, full, x -> x.press(1, 1));
        refuses("press(2, 2)", FULL, full, x -> x.press(2, 2));
    }

    // ---- 19

    /** A dial with 7 marks, a calendar, a strike; four ticks to a turn; it does not go yet. */
    private static WatchHouse works() {
        WatchHouse x = Due.oneArbor(2);
        x.arbor();
        x.dial(0, 7);
        x.calendar(0, 2, 1, 1, 2000);
        x.strike(0, 1);
        x.calendar(1, 3, 1, 1, 2000);
        return x;
    }

    private static WatchHouse works(int ticks) {
        return Edge.ticked(works(), ticks);
    }

    private static void correctRange(int work, int what, int low, int high) {
        Edge.range("correct(" + work + ", " + what + ", v)", low, high, 0, () -> works(1), (x, v) -> x.correct(work, what, v));
        for (int v : new int[] {low, high}) {
            WatchHouse x = works(1);
            x.correct(work, what, v);
            due("shows(" + work + ", " + what + ") then", x.shows(work, what), v);
        }
    }

    private static void correctNumbers() {
        says(19, "Of a DIAL: what = 0 its mark.");
        correctRange(0, 0, 0, 6);
        says(19, "Of a CALENDAR: 0 day (1 .. 31), 1 month, 2 year (1 .. 9999), 3 week day.");
        correctRange(1, 0, 1, 31);
        correctRange(1, 1, 1, 12);
        correctRange(1, 2, 1, 9999);
        correctRange(1, 3, 0, 6);
        says(19, "Of a STRIKE: 0 hour, 1 place (1 .. 12), 2 silent (0, 1).");
        correctRange(2, 0, 1, 12);
        correctRange(2, 1, 1, 12);
        correctRange(2, 2, 0, 1);
        says(19, "Of a DIAL: what = 0 its mark.");
        WatchHouse x = Edge.arbors(1);
        x.escape(0, 1);
        x.dial(0, 2);
        x.dial(0, 1000);
        x.go();
        due("correct(0, 0, 1) of two marks", x.correct(0, 0, 1), 0);
        due("correct(0, 0, 2) of two marks", x.correct(0, 0, 2), BAD);
        due("correct(1, 0, 999) of a thousand", x.correct(1, 0, 999), 0);
        due("correct(1, 0, 1000) of a thousand", x.correct(1, 0, 1000), BAD);
    }

    private static void correctOfNone() {
        says(19, "no such work, what, or number for it");
        Edge.outside("correct(work, 0, 1)", 0, 3, () -> works(1), (x, v) -> x.correct(v, 0, 1));
        Edge.outside("correct(0, what, 1)", 0, 0, () -> works(1), (x, v) -> x.correct(0, v, 1));
        Edge.outside("correct(1, what, 1)", 0, 3, () -> works(1), (x, v) -> x.correct(1, v, 1));
        Edge.outside("correct(2, what, 1)", 0, 2, () -> works(1), (x, v) -> x.correct(2, v, 1));
        for (int what = 4; what <= 9; what++) {
            int shown = what;
            refuses("correct(1, " + what + ", 1)", BAD, () -> works(1), x -> x.correct(1, shown, 1));
        }
        refuses("correct(0, 0, 0) without works", BAD, () -> Edge.going(1), x -> x.correct(0, 0, 0));
        says(19, GOING_ONLY);
        refuses("correct(0, 0, 1)", NO, EdgesWorks::works, x -> x.correct(0, 0, 1));
        refuses("correct(1, 0, 2)", NO, EdgesWorks::works, x -> x.correct(1, 0, 2));
        refuses("correct(2, 2, 1)", NO, EdgesWorks::works, x -> x.correct(2, 2, 1));
    }

    private static void correctBarred() {
        says(19, "It can be corrected but when BARRED: when its arbor is known, and the PART of that not below 3/4.");
        for (int what = 0; what < 4; what++) {
            int shown = what;
            refuses("correct(1, " + what + ", 5) at 3/4", NO, () -> works(3), x -> x.correct(1, shown, 5));
            due("correct(1, " + what + ", 5) at 2/4", works(2).correct(1, what, 5), 0);
            due("correct(1, " + what + ", 5) at a whole turn", works(4).correct(1, what, 5), 0);
        }
        refuses("correct(1, 0, 5) at 7/4", NO, () -> works(7), x -> x.correct(1, 0, 5));
        due("correct(0, 0, 5) of a dial at 3/4", works(3).correct(0, 0, 5), 0);
        due("correct(2, 0, 5) of a strike at 3/4", works(3).correct(2, 0, 5), 0);
        due("correct(3, 0, 5) of an arbor that is not known", works(3).correct(3, 0, 5), 0);
        says(19, FIRST);
        refuses("correct(1, 0, 32) when barred", BAD, () -> works(3), x -> x.correct(1, 0, 32));
        refuses("correct(1, 4, 1) when barred", BAD, () -> works(3), x -> x.correct(1, 4, 1));
    }

    private static void correctNamedFirst() {
        says(19, FIRST);
        refuses("correct(0, 0, 7) when it does not go", BAD, EdgesWorks::works, x -> x.correct(0, 0, 7));
        refuses("correct(0, 1, 1) when it does not go", BAD, EdgesWorks::works, x -> x.correct(0, 1, 1));
        refuses("correct(4, 0, 1) when it does not go", BAD, EdgesWorks::works, x -> x.correct(4, 0, 1));
        refuses("correct(0, 0, 7) when the book is full", BAD, () -> Edge.fullBook(works(1)), x -> x.correct(0, 0, 7));
        refuses("correct(1, 0, 5) when barred and the book is full", NO, () -> Edge.fullBook(works(3)), x -> x.correct(1, 0, 5));
        says(19, FULL_BOOK);
        refuses("correct(0, 0, 1)", FULL, () -> Edge.fullBook(works(1)), x -> x.correct(0, 0, 1));
        refuses("correct(1, 0, 5)", FULL, () -> Edge.fullBook(works(1)), x -> x.correct(1, 0, 5));
        refuses("correct(2, 2, 1)", FULL, () -> Edge.fullBook(works(1)), x -> x.correct(2, 2, 1));
    }

    // ---- 20

    private static void trips() {
        says(20, "no such work, or it is no strike");
        Edge.outside("trip(work)", 0, 3, () -> works(1), WatchHouse::trip);
        refuses("trip(0) of a dial", BAD, () -> works(1), x -> x.trip(0));
        refuses("trip(1) of a calendar", BAD, () -> works(1), x -> x.trip(1));
        refuses("trip(0) without works", BAD, () -> Edge.going(1), x -> x.trip(0));
        due("trip(2) of a strike", works(1).trip(2), 1);
        says(20, GOING_ONLY);
        refuses("trip(2)", NO, EdgesWorks::works, x -> x.trip(2));
        says(20, FIRST);
        refuses("trip(0) when it does not go", BAD, EdgesWorks::works, x -> x.trip(0));
        refuses("trip(4) when it does not go", BAD, EdgesWorks::works, x -> x.trip(4));
        refuses("trip(0) when the book is full", BAD, () -> Edge.fullBook(works(1)), x -> x.trip(0));
        says(20, FULL_BOOK);
        refuses("trip(2)", FULL, () -> Edge.fullBook(works(1)), x -> x.trip(2));
    }

    private static void tripSilent() {
        says(20, "A strike strikes at once (silent or not; the hour stays): how often.");
        for (int silent = 0; silent <= 1; silent++) {
            WatchHouse x = Edge.arbors(1);
            x.escape(0, 1);
            x.strike(0, 0);
            x.strike(0, 1);
            x.go();
            x.correct(0, 2, silent);
            x.correct(1, 2, silent);
            x.correct(1, 1, 11);
            due("trip(0) of a rack at 12", x.trip(0), 12);
            due("trip(0) once more", x.trip(0), 12);
            due("its hour", x.shows(0, 0), 12);
            due("its place", x.shows(0, 1), 1);
            due("trip(1) of a count wheel at 11", x.trip(1), 11);
            due("trip(1) at 12", x.trip(1), 12);
            due("trip(1) behind 12", x.trip(1), 1);
            due("its place", x.shows(1, 1), 2);
            due("its hour", x.shows(1, 0), 12);
            due("rows of strikes", x.count(5), 5);
            due("struck(4, 1)", x.struck(4, 1), 1);
            due("struck(4, 2)", x.struck(4, 2), 1);
            due("tripped by ticks", x.shows(1, 9), 0);
        }
    }

    // ---- 25

    private static void showsOfNone() {
        says(25, "BAD: no such work, or what");
        WatchHouse x = works(5);
        Edge.question("shows(work, 9)", 0, 3, BAD, x, (y, v) -> y.shows(v, 9));
        due("shows(0, 9) without works", Edge.going(1).shows(0, 9), BAD);
        int[][] has = {{0, 0}, {0, 8}, {0, 2}};
        for (int work = 0; work < 3; work++) {
            for (int what = -1; what <= 10; what++) {
                boolean shown = what == 9 || what >= has[work][0] && what <= has[work][1];
                due("shows(" + work + ", " + what + ") is BAD", x.shows(work, what) == BAD ? 1 : 0, shown ? 0 : 1);
            }
            due("shows(" + work + ", the least)", x.shows(work, Edge.LEAST), BAD);
            due("shows(" + work + ", the most)", x.shows(work, Edge.MOST), BAD);
        }
    }

    private static void dialWraps() {
        says(25, "A DIAL with m marks shows 0 at first, by each trip the next, behind m - 1 the first.");
        WatchHouse x = Due.oneArbor(1);
        x.dial(0, 2);
        x.dial(0, 3);
        x.dial(0, 1000);
        x.go();
        x.correct(2, 0, 998);
        x.shock(50000);
        for (int turn = 0; turn <= 7; turn++) {
            Due.runToTick(x, 2 * turn);
            due("2 marks behind trip " + turn, x.shows(0, 0), turn % 2);
            due("3 marks behind trip " + turn, x.shows(1, 0), turn % 3);
            due("1000 marks, from 998 on, behind trip " + turn, x.shows(2, 0), (998 + turn) % 1000);
        }
    }

    private static void trippedOnce() {
        says(25, "those whose arbor is known and has more TURNS than before it are TRIPPED (once)");
        WatchHouse x = Due.oneArbor(1);
        x.arbor();
        x.arbor();
        x.arbor();
        x.mesh(0, 200, 1, 1, 0);
        x.mesh(0, 1, 2, 2, 0);
        for (int arbor = 0; arbor < 4; arbor++) {
            x.dial(arbor, 1000);
        }
        x.go();
        x.shock(50000);
        for (int ticks = 0; ticks <= 9; ticks++) {
            Due.runToTick(x, ticks);
            int[] want = {ticks / 2, ticks, ticks / 4, 0};
            for (int work = 0; work < 4; work++) {
                due("shows(" + work + ", 0) behind tick " + ticks, x.shows(work, 0), want[work]);
                due("shows(" + work + ", 9) behind tick " + ticks, x.shows(work, 9), want[work]);
            }
        }
    }

    /** What a calendar that was corrected to a day shows behind one trip: day, month, year. */
    private static int[] dayBehind(int kind, int day, int month, int year) {
        WatchHouse x = Due.oneArbor(1);
        x.calendar(0, kind, 15, 6, 2001);
        x.go();
        x.correct(0, 0, day);
        x.correct(0, 1, month);
        x.correct(0, 2, year);
        x.shock(50000);
        Due.runToTick(x, 2);
        return new int[] {x.shows(0, 0), x.shows(0, 1), x.shows(0, 2)};
    }

    private static void behindIs(int kind, int[] day, int... want) {
        int[] got = dayBehind(kind, day[0], day[1], day[2]);
        String[] names = {"day", "month", "year"};
        for (int i = 0; i < 3; i++) {
            due("kind " + kind + ", the " + names[i] + " behind " + day[0] + "." + day[1] + "." + day[2], got[i], want[i]);
        }
    }

    /** The last day of a month, and the one before it. */
    private static void length(int kind, int month, int year, int length) {
        behindIs(kind, new int[] {length - 1, month, year}, length, month, year);
        behindIs(kind, new int[] {length, month, year}, 1, month % 12 + 1, month == 12 ? year + 1 : year);
    }

    private static void lengthsOfKinds() {
        says(25, "kind 0: 31");
        for (int month = 1; month <= 12; month++) {
            length(0, month, 2000, 31);
        }
        says(25, "1: 30 of months 2, 4, 6, 9, 11, else 31");
        int[] thirty = {31, 30, 31, 30, 31, 30, 31, 31, 30, 31, 30, 31};
        for (int month = 1; month <= 12; month++) {
            length(1, month, 2023, thirty[month - 1]);
        }
        says(25, "2: 28, or 29 if the year can be divided by 4, of month 2, else as kind 1");
        for (int year : new int[] {1, 3, 1997, 1998, 1999, 9997, 9999}) {
            length(2, 2, year, 28);
        }
        for (int year : new int[] {4, 100, 1900, 1996, 2000, 2100, 9996}) {
            length(2, 2, year, 29);
        }
        for (int month = 1; month <= 12; month++) {
            length(2, month, 2000, month == 2 ? 29 : thirty[month - 1]);
        }
        says(25, "3: the true ones");
        for (int year : new int[] {1, 100, 1900, 1999, 2100, 9999}) {
            length(3, 2, year, 28);
        }
        for (int year : new int[] {4, 400, 1996, 2000, 9996}) {
            length(3, 2, year, 29);
        }
        for (int month = 1; month <= 12; month++) {
            length(3, month, 2023, month == 2 ? 28 : thirty[month - 1]);
        }
    }

    private static void notBelowLength() {
        says(25, "the day one more, but if it was not below the month's LENGTH, 1, and the month the next");
        for (int kind = 1; kind <= 3; kind++) {
            for (int day = 30; day <= 31; day++) {
                behindIs(kind, new int[] {day, 2, 1900}, 1, 3, 1900);
            }
            behindIs(kind, new int[] {31, 4, 1900}, 1, 5, 1900);
        }
        behindIs(3, new int[] {29, 2, 1900}, 1, 3, 1900);
        behindIs(2, new int[] {29, 2, 1901}, 1, 3, 1901);
    }

    private static void yearWraps() {
        says(25, "behind 12 it is 1 and the year one more (behind 9999: 1)");
        for (int kind = 0; kind <= 3; kind++) {
            behindIs(kind, new int[] {31, 12, 9998}, 1, 1, 9999);
            behindIs(kind, new int[] {31, 12, 9999}, 1, 1, 1);
            behindIs(kind, new int[] {30, 12, 9999}, 31, 12, 9999);
            behindIs(kind, new int[] {31, 11, 9999}, 1, 12, 9999);
        }
    }

    private static void trueDayWraps() {
        says(25, "By each trip the true day is the next (behind 31.12.9999: 1.1.1)");
        for (int kind = 0; kind <= 3; kind++) {
            WatchHouse x = Due.oneArbor(1);
            x.calendar(0, kind, 30, 12, 9999);
            x.calendar(0, kind, 28, 2, 1900);
            x.calendar(0, kind, 28, 2, 2000);
            x.go();
            x.shock(50000);
            int[][][] want = {{{30, 12, 9999}, {31, 12, 9999}, {1, 1, 1}, {2, 1, 1}}, {{28, 2, 1900}, {1, 3, 1900}, {2, 3, 1900}, {3, 3, 1900}},
                {{28, 2, 2000}, {29, 2, 2000}, {1, 3, 2000}, {2, 3, 2000}}};
            for (int turn = 0; turn < 4; turn++) {
                Due.runToTick(x, 2 * turn);
                for (int work = 0; work < 3; work++) {
                    for (int i = 0; i < 3; i++) {
                        due("shows(" + work + ", " + (4 + i) + ") behind trip " + turn, x.shows(work, 4 + i), want[work][turn][i]);
                    }
                }
            }
        }
    }

    private static void trueDayAlone() {
        says(25, "By each trip the true day is the next (behind 31.12.9999: 1.1.1), and what is shown");
        WatchHouse x = Due.oneArbor(1);
        x.calendar(0, 3, 30, 12, 9999);
        x.calendar(0, 3, 30, 4, 2001);
        x.calendar(0, 3, 28, 2, 2001);
        x.go();
        for (int work = 0; work < 3; work++) {
            x.correct(work, 0, 5);
            x.correct(work, 1, 7);
            x.correct(work, 2, 2020);
        }
        x.shock(50000);
        int[][][] want = {{{30, 12, 9999}, {31, 12, 9999}, {1, 1, 1}, {2, 1, 1}}, {{30, 4, 2001}, {1, 5, 2001}, {2, 5, 2001}, {3, 5, 2001}},
            {{28, 2, 2001}, {1, 3, 2001}, {2, 3, 2001}, {3, 3, 2001}}};
        for (int turn = 0; turn < 4; turn++) {
            Due.runToTick(x, 2 * turn);
            for (int work = 0; work < 3; work++) {
                int[] shown = {5 + turn, 7, 2020};
                for (int i = 0; i < 3; i++) {
                    due("shows(" + work + ", " + i + ") behind trip " + turn, x.shows(work, i), shown[i]);
                    due("shows(" + work + ", " + (4 + i) + ") behind trip " + turn, x.shows(work, 4 + i), want[work][turn][i]);
                }
            }
        }
    }

    private static void weekDayWraps() {
        says(25, "the week day, the next");
        WatchHouse x = Due.oneArbor(1);
        // a Friday, though 1.1.1 is a Monday; and a Sunday
        x.calendar(0, 3, 31, 12, 9999);
        x.calendar(0, 0, 2, 1, 2000);
        x.go();
        x.shock(50000);
        for (int turn = 0; turn <= 8; turn++) {
            Due.runToTick(x, 2 * turn);
            due("shows(0, 3) behind trip " + turn, x.shows(0, 3), (4 + turn) % 7);
            due("shows(1, 3) behind trip " + turn, x.shows(1, 3), (6 + turn) % 7);
        }
    }

    private static void wrong() {
        says(25, "It was WRONG if behind a trip day or month shown are not the true ones.");
        // what is corrected, to what, and whether it is WRONG behind the next trip
        int[][] cases = {{0, 15, 0}, {0, 16, 1}, {0, 14, 1}, {1, 6, 0}, {1, 5, 1}, {1, 7, 1}, {2, 2000, 0}, {2, 1, 0}, {3, 0, 0}};
        for (int[] c : cases) {
            WatchHouse x = Due.oneArbor(1);
            x.calendar(0, 3, 15, 6, 2001);
            x.go();
            due("correct(0, " + c[0] + ", " + c[1] + ")", x.correct(0, c[0], c[1]), 0);
            due("shows(0, 7) before a trip", x.shows(0, 7), 0);
            x.shock(50000);
            Due.runToTick(x, 2);
            due("shows(0, 7) behind a trip", x.shows(0, 7), c[2]);
            Due.runToTick(x, 4);
            due("shows(0, 7) behind two trips", x.shows(0, 7), 2 * c[2]);
        }
        WatchHouse x = Due.oneArbor(1);
        x.calendar(0, 1, 28, 2, 2023);
        Edge.ticked(x, 2);
        due("shows(0, 7) of 29.2. when it is 1.3.", x.shows(0, 7), 1);
        x.correct(0, 1, 3);
        x.correct(0, 0, 1);
        Due.runToTick(x, 4);
        due("shows(0, 7) when it is right again", x.shows(0, 7), 1);
    }

    private static void barred() {
        says(25, "8 1 if it is BARRED, else 0");
        WatchHouse x = Due.oneArbor(20);
        x.arbor();
        x.arbor();
        x.mesh(0, 3, 1, 7, 0);
        x.calendar(0, 3, 1, 1, 2000);
        x.calendar(1, 3, 1, 1, 2000);
        x.calendar(2, 3, 1, 1, 2000);
        due("before it goes", x.shows(0, 8), 0);
        x.go();
        x.shock(50000);
        for (int ticks : new int[] {0, 1, 29, 30, 31, 39, 40, 41, 69, 70, 71, 79, 80, 93, 94}) {
            Due.runToTick(x, ticks);
            due("at " + ticks + "/40 of a turn", x.shows(0, 8), ticks % 40 >= 30 ? 1 : 0);
            due("at 3 * " + ticks + "/280 of a turn", x.shows(1, 8), 3 * ticks % 280 >= 210 ? 1 : 0);
            due("when its arbor is not known", x.shows(2, 8), 0);
        }
    }

    private static void hourWraps() {
        says(25, "By each trip the hour is the next (behind 12: 1)");
        WatchHouse x = Due.oneArbor(1);
        x.strike(0, 0);
        x.strike(0, 1);
        x.strike(0, 0);
        x.go();
        x.correct(2, 2, 1);
        x.shock(50000);
        for (int turn = 0; turn <= 25; turn++) {
            Due.runToTick(x, 2 * turn);
            due("the hour behind trip " + turn, x.shows(0, 0), (turn + 11) % 12 + 1);
            due("the hour of a silent one behind trip " + turn, x.shows(2, 0), (turn + 11) % 12 + 1);
            due("the place of a count wheel behind trip " + turn, x.shows(1, 1), turn % 12 + 1);
            due("the place of a rack behind trip " + turn, x.shows(0, 1), 1);
        }
        says(25, "1 (count wheel): as its place, which is the next then (behind 12: 1)");
        for (int turn = 1; turn <= 25; turn++) {
            due("how often the rack struck", x.struck(2 * turn - 2, 2), (turn + 11) % 12 + 1);
            due("how often the count wheel struck", x.struck(2 * turn - 1, 2), (turn + 11) % 12 + 1);
        }
    }

    private static void silent() {
        says(25, "then, if it is not silent, it STRIKES");
        WatchHouse x = Due.oneArbor(1);
        x.strike(0, 1);
        x.go();
        x.correct(0, 2, 1);
        x.shock(50000);
        Due.runToTick(x, 4);
        due("rows when it is silent", x.count(5), 0);
        due("its place stays", x.shows(0, 1), 1);
        due("its hour does not", x.shows(0, 0), 2);
        x.correct(0, 2, 0);
        Due.runToTick(x, 6);
        due("rows when it is silent no more", x.count(5), 1);
        due("how often", x.struck(0, 2), 1);
        due("its hour then", x.shows(0, 0), 3);
    }

    // ---- 26 to 28

    /** Eight strikes, racks and count wheels by turns, each of which is tripped by every tick. */
    private static WatchHouse ringing(int ticks) {
        WatchHouse x = Due.oneArbor(1);
        x.arbor();
        x.mesh(0, 2, 1, 1, 0);
        for (int i = 0; i < 8; i++) {
            x.strike(1, i % 2);
        }
        x.go();
        x.shock(50000);
        for (int i = 0; i < 1900 && x.state(0) < ticks; i++) {
            x.run(1);
        }
        return x;
    }

    private static void strikeRows() {
        says(26, "BAD: none such, i is not below 1000, or no such what");
        WatchHouse x = ringing(1);
        Edge.question("struck(i, 2) of 8", 0, 7, BAD, x, (y, v) -> y.struck(v, 2));
        Edge.question("struck(0, what)", 0, 2, BAD, x, (y, v) -> y.struck(0, v));
        due("struck(0, 0) of none", ringing(0).struck(0, 0), BAD);
        x.back(0);
        due("struck(0, 0) behind back(0)", x.struck(0, 0), BAD);
    }

    private static void strikeRowsKept() {
        says(26, "A row is told (N, the work, how often; 1000 rows are kept).");
        WatchHouse x = ringing(125);
        due("struck(999, 0), the last that is kept", x.struck(999, 0), 125);
        due("struck(999, 1)", x.struck(999, 1), 7);
        due("struck(999, 2)", x.struck(999, 2), 125 % 12);
        due("struck(1000, 0)", x.struck(1000, 0), BAD);
        says(28, "5 rows of strikes (told)");
        due("count(5)", x.count(5), 1000);
        due("trip(0)", x.trip(0), 125 % 12);
        due("count(5) of one that is not kept", x.count(5), 1001);
        says(26, "A row is told (N, the work, how often; 1000 rows are kept).");
        Edge.question("struck(i, 0)", 0, 999, BAD, x, (y, v) -> y.struck(v, 0));
        x.run(100);
        for (int i = 0; i < 1000; i++) {
            due("struck(" + i + ", 0) stays", x.struck(i, 0), i / 8 + 1);
            due("struck(" + i + ", 1) stays", x.struck(i, 1), i % 8);
            due("struck(" + i + ", 2) stays", x.struck(i, 2), i / 8 % 12 + 1);
        }
        due("struck(1000, 2)", x.struck(1000, 2), BAD);
    }

    private static void byTheirNumbers() {
        says(26, "By each tick, by their numbers");
        WatchHouse x = ringing(3);
        for (int i = 0; i < 24; i++) {
            due("struck(" + i + ", 0)", x.struck(i, 0), i / 8 + 1);
            due("struck(" + i + ", 1)", x.struck(i, 1), i % 8);
            due("struck(" + i + ", 2)", x.struck(i, 2), i / 8 + 1);
        }
    }

    private static void hands() {
        says(27, "BAD: no such chronograph, or what");
        WatchHouse x = chronographs(RUNS, true);
        Edge.question("hand(chronograph, 0)", 0, 2, BAD, x, (y, v) -> y.hand(v, 0));
        Edge.question("hand(0, what)", 0, 3, BAD, x, (y, v) -> y.hand(0, v));
        due("hand(0, 0) without chronographs", new WatchHouse().hand(0, 0), BAD);
        says(27, "with a count and a split, 0 at first");
        for (int c = 0; c < 3; c++) {
            handIs("at first", chronographs(), c, ZERO, 0, 0, 0);
        }
        says(27, "by each tick, when it runs, the count is one more; the split is the count, unless it is HELD");
        handIs("when it RUNS", x, 0, RUNS, 5, 5, 0);
        handIs("when it RUNS and is held", x, 2, RUNS, 5, 3, 1);
        WatchHouse y = chronographs(STOPPED, false);
        Due.runToTick(y, 6);
        handIs("when STOPPED", y, 0, STOPPED, 3, 3, 0);
        WatchHouse z = chronographs(ZERO, false);
        Due.runToTick(z, 6);
        handIs("at ZERO", z, 0, ZERO, 0, 0, 0);
    }

    private static void counts() {
        says(28, "BAD: another what");
        Edge.question("count(what)", 0, 6, BAD, works(5), WatchHouse::count);
        Edge.question("count(what) of a new object", 0, 6, BAD, new WatchHouse(), WatchHouse::count);
        says(28, "6 1 if it goes, else 0");
        due("count(6) of one that is built", works().count(6), 0);
        due("count(6) of one that goes", works(0).count(6), 1);
        due("count(6) behind a go() that was refused", refusedGo().count(6), 0);
    }

    private static WatchHouse refusedGo() {
        WatchHouse x = Edge.arbors(1);
        x.go();
        return x;
    }

    static void all() {
        pressNumbers();
        buttonZero();
        buttonOne();
        buttonTwo();
        otherButtons();
        pressNamedFirst();
        correctNumbers();
        correctOfNone();
        correctBarred();
        correctNamedFirst();
        trips();
        tripSilent();
        showsOfNone();
        dialWraps();
        trippedOnce();
        lengthsOfKinds();
        notBelowLength();
        yearWraps();
        trueDayWraps();
        trueDayAlone();
        weekDayWraps();
        wrong();
        barred();
        hourWraps();
        silent();
        strikeRows();
        strikeRowsKept();
        byTheirNumbers();
        hands();
        counts();
    }
}

import java.time.LocalDate;

/** Promises 18 to 20 and 25 to 28: chronographs, dials, calendars and strikes. */
public final class WorksTest {
    private static final int BAD = WatchHouse.BAD, NO = WatchHouse.NO, FULL = WatchHouse.FULL;

    private static void due(int promise, String call, long got, long want) {
        Due.due(promise, call, got, want);
    }

    /** Lets it go, and so many ticks happen. */
    private static void start(WatchHouse x, int ticks) {
        x.go();
        x.shock(50000);
        Due.runToTick(x, ticks);
    }

    private static void handIs(WatchHouse x, int c, int state, int count, int split, int held) {
        due(27, "hand(" + c + ", 0)", x.hand(c, 0), state);
        due(27, "hand(" + c + ", 1)", x.hand(c, 1), count);
        due(27, "hand(" + c + ", 2)", x.hand(c, 2), split);
        due(27, "hand(" + c + ", 3)", x.hand(c, 3), held);
    }

    private static void presses() {
        WatchHouse x = Due.oneArbor(1);
        x.chronograph(0);
        x.chronograph(1);
        x.chronograph(2);
        due(18, "press(0, 0) when it does not go", x.press(0, 0), NO);
        due(18, "press(3, 0) when it does not go", x.press(3, 0), BAD);
        start(x, 2);
        due(18, "press(-1, 0)", x.press(-1, 0), BAD);
        due(18, "press(3, 0)", x.press(3, 0), BAD);
        due(18, "press(0, -1)", x.press(0, -1), BAD);
        due(18, "press(0, 3)", x.press(0, 3), BAD);
        int rows = x.count(4);
        for (int c = 0; c < 3; c++) {
            handIs(x, c, 0, 0, 0, 0);
            due(18, "press(c, 1) at ZERO", x.press(c, 1), NO);
            due(18, "press(c, 2) at ZERO", x.press(c, 2), NO);
            due(18, "press(c, 0) at ZERO", x.press(c, 0), 1);
        }
        due(18, "only what is carried out is in the book", x.count(4), rows + 3);
        Due.runToTick(x, 5);
        handIs(x, 0, 1, 3, 3, 0);
        due(18, "press(0, 1): RUNS, of kind 0", x.press(0, 1), NO);
        due(18, "press(0, 2): of kind 0", x.press(0, 2), NO);
        due(18, "press(1, 1): RUNS, of kind 1", x.press(1, 1), 1);
        handIs(x, 1, 1, 0, 0, 0);
        due(18, "press(1, 2): of kind 1", x.press(1, 2), NO);
        due(18, "press(2, 1): RUNS, of kind 2", x.press(2, 1), NO);
        due(18, "press(2, 2): it is held", x.press(2, 2), 1);
        Due.runToTick(x, 7);
        handIs(x, 0, 1, 5, 5, 0);
        handIs(x, 1, 1, 2, 2, 0);
        handIs(x, 2, 1, 5, 3, 1);
        due(18, "press(2, 0): STOPPED, held", x.press(2, 0), 2);
        due(18, "press(2, 1): held", x.press(2, 1), NO);
        Due.runToTick(x, 8);
        handIs(x, 2, 2, 5, 3, 1);
        due(18, "press(2, 0): it RUNS again", x.press(2, 0), 1);
        Due.runToTick(x, 9);
        handIs(x, 2, 1, 6, 3, 1);
        due(18, "press(2, 2): held no more", x.press(2, 2), 1);
        handIs(x, 2, 1, 6, 6, 0);
        stops(x);
    }

    private static void stops(WatchHouse x) {
        for (int c = 0; c < 3; c++) {
            due(18, "press(c, 0): RUNS", x.press(c, 0), 2);
        }
        due(18, "press(0, 2): STOPPED, of kind 0", x.press(0, 2), NO);
        due(18, "press(1, 2): STOPPED, of kind 1", x.press(1, 2), NO);
        due(18, "press(2, 2): STOPPED, of kind 2", x.press(2, 2), 2);
        due(18, "press(2, 2): held", x.press(2, 2), 2);
        for (int c = 0; c < 3; c++) {
            due(18, "press(c, 1): STOPPED", x.press(c, 1), 0);
            handIs(x, c, 0, 0, 0, 0);
        }
        due(27, "hand(-1, 0)", x.hand(-1, 0), BAD);
        due(27, "hand(3, 0)", x.hand(3, 0), BAD);
        due(27, "hand(0, -1)", x.hand(0, -1), BAD);
        due(27, "hand(0, 4)", x.hand(0, 4), BAD);
    }

    private static void corrections() {
        WatchHouse x = Due.oneArbor(1);
        x.dial(0, 7);
        x.calendar(0, 2, 1, 1, 2000);
        x.strike(0, 0);
        due(19, "correct(0, 0, 0) when it does not go", x.correct(0, 0, 0), NO);
        due(19, "correct(0, 0, 7) when it does not go", x.correct(0, 0, 7), BAD);
        x.go();
        int[][] ranges = {{0, 0, 0, 6}, {1, 0, 1, 31}, {1, 1, 1, 12}, {1, 2, 1, 9999}, {1, 3, 0, 6}, {2, 0, 1, 12}, {2, 1, 1, 12},
            {2, 2, 0, 1}};
        int rows = 0;
        for (int[] r : ranges) {
            due(19, "correct below", x.correct(r[0], r[1], r[2] - 1), BAD);
            due(19, "correct above", x.correct(r[0], r[1], r[3] + 1), BAD);
            due(19, "correct to the least", x.correct(r[0], r[1], r[2]), 0);
            due(25, "shows the least", x.shows(r[0], r[1]), r[2]);
            due(19, "correct to the greatest", x.correct(r[0], r[1], r[3]), 0);
            due(25, "shows the greatest", x.shows(r[0], r[1]), r[3]);
            rows += 2;
            due(19, "count(4)", x.count(4), rows);
        }
        due(19, "correct(-1, 0, 1)", x.correct(-1, 0, 1), BAD);
        due(19, "correct(3, 0, 1)", x.correct(3, 0, 1), BAD);
        due(19, "correct(0, -1, 1)", x.correct(0, -1, 1), BAD);
        due(19, "correct(0, 1, 1)", x.correct(0, 1, 1), BAD);
        due(19, "correct(1, 4, 1)", x.correct(1, 4, 1), BAD);
        due(19, "correct(2, 3, 1)", x.correct(2, 3, 1), BAD);
        due(25, "the true day stays", x.shows(1, 4), 1);
        due(25, "the true month stays", x.shows(1, 5), 1);
        due(25, "the true year stays", x.shows(1, 6), 2000);
        due(25, "it was not WRONG yet", x.shows(1, 7), 0);
        x.shock(50000);
        Due.runToTick(x, 2);
        due(25, "shows(0, 0)", x.shows(0, 0), 0);
        int[] shown = {1, 1, 1, 0, 2, 1, 2000, 1, 0, 1};
        for (int what = 0; what < shown.length; what++) {
            due(25, "shows(1, " + what + ") behind 31.12.9999", x.shows(1, what), shown[what]);
        }
        due(25, "the hour behind 12", x.shows(2, 0), 1);
        due(25, "it was silent", x.count(5), 0);
        barred();
    }

    private static void barred() {
        WatchHouse x = Due.oneArbor(2);
        x.arbor();
        x.calendar(0, 3, 1, 1, 2000);
        x.dial(0, 5);
        x.strike(0, 0);
        x.calendar(1, 3, 1, 1, 2000);
        start(x, 2);
        due(25, "shows(0, 8) at 2/4", x.shows(0, 8), 0);
        due(19, "correct(0, 0, 2) at 2/4", x.correct(0, 0, 2), 0);
        Due.runToTick(x, 3);
        due(25, "shows(0, 8) at 3/4", x.shows(0, 8), 1);
        int rows = x.count(4);
        due(19, "correct(0, 0, 3) at 3/4", x.correct(0, 0, 3), NO);
        due(19, "correct(0, 0, 32) at 3/4", x.correct(0, 0, 32), BAD);
        due(19, "it stays", x.shows(0, 0), 2);
        due(19, "count(4)", x.count(4), rows);
        due(19, "a dial is never barred", x.correct(1, 0, 3), 0);
        due(19, "a strike is never barred", x.correct(2, 0, 3), 0);
        due(25, "shows(3, 8) of an arbor that is not known", x.shows(3, 8), 0);
        due(19, "correct(3, 0, 3) of it", x.correct(3, 0, 3), 0);
        Due.runToTick(x, 4);
        due(25, "shows(0, 8) at a whole turn", x.shows(0, 8), 0);
        due(19, "correct(0, 0, 3)", x.correct(0, 0, 3), 0);
        due(25, "shows(3, 9): it was never tripped", x.shows(3, 9), 0);
    }

    private static void barredByTenths() {
        WatchHouse x = Due.oneArbor(5);
        x.calendar(0, 3, 1, 1, 2000);
        x.go();
        x.shock(50000);
        for (int tick = 1; tick <= 20; tick++) {
            Due.runToTick(x, tick);
            due(25, "shows(0, 8) at " + tick + "/10", x.shows(0, 8), tick % 10 >= 8 ? 1 : 0);
        }
    }

    private static void trips() {
        WatchHouse x = Due.oneArbor(1);
        x.strike(0, 0);
        x.strike(0, 1);
        x.dial(0, 3);
        due(20, "trip(0) when it does not go", x.trip(0), NO);
        due(20, "trip(2) when it does not go", x.trip(2), BAD);
        x.go();
        due(20, "trip(-1)", x.trip(-1), BAD);
        due(20, "trip(3)", x.trip(3), BAD);
        due(20, "trip(2) of a dial", x.trip(2), BAD);
        due(20, "trip(0)", x.trip(0), 12);
        due(20, "the hour stays", x.shows(0, 0), 12);
        due(20, "the rack's place stays", x.shows(0, 1), 1);
        due(20, "trip(1)", x.trip(1), 1);
        due(20, "trip(1)", x.trip(1), 2);
        due(20, "the place is the next", x.shows(1, 1), 3);
        due(20, "the hour stays", x.shows(1, 0), 12);
        x.correct(0, 2, 1);
        x.correct(1, 2, 1);
        x.correct(1, 1, 12);
        due(20, "trip(0) of a silent one", x.trip(0), 12);
        due(20, "trip(1) of a silent one", x.trip(1), 12);
        due(20, "the place behind 12", x.shows(1, 1), 1);
        due(20, "it was not tripped by ticks", x.shows(1, 9), 0);
        due(20, "count(4)", x.count(4), 8);
        int[][] rows = {{0, 0, 12}, {0, 1, 1}, {0, 1, 2}, {0, 0, 12}, {0, 1, 12}};
        for (int i = 0; i < rows.length; i++) {
            for (int what = 0; what < 3; what++) {
                due(26, "struck(" + i + ", " + what + ")", x.struck(i, what), rows[i][what]);
            }
        }
        x.shock(50000);
        Due.runToTick(x, 2);
        due(20, "silent ones do not strike by ticks", x.count(5), 5);
        due(25, "but the hour is the next", x.shows(1, 0), 1);
        due(25, "and the place stays", x.shows(1, 1), 1);
    }

    /** Works on two arbors, one of which turns once in 2 ticks, the other in 1. */
    private static void tripped() {
        WatchHouse x = Due.oneArbor(1);
        x.arbor();
        x.arbor();
        x.mesh(0, 4, 1, 1, 0);
        x.dial(1, 3);
        x.dial(0, 2);
        x.strike(0, 0);
        x.strike(1, 1);
        x.dial(2, 9);
        due(25, "shows(0, 0) before it goes", x.shows(0, 0), 0);
        start(x, 1);
        due(25, "two turns by one tick: one trip", x.shows(0, 0), 1);
        due(25, "no turn", x.shows(1, 0), 0);
        due(25, "shows(0, 9)", x.shows(0, 9), 1);
        Due.runToTick(x, 3);
        due(25, "behind the last mark the first", x.shows(0, 0), 0);
        due(25, "shows(0, 9)", x.shows(0, 9), 3);
        due(25, "shows(1, 0)", x.shows(1, 0), 1);
        due(25, "shows(2, 0)", x.shows(2, 0), 1);
        due(25, "shows(3, 1)", x.shows(3, 1), 4);
        due(25, "an arbor that is not known", x.shows(4, 9), 0);
        int[][] rows = {{1, 3, 1}, {2, 2, 1}, {2, 3, 2}, {3, 3, 3}};
        for (int i = 0; i < rows.length; i++) {
            for (int what = 0; what < 3; what++) {
                due(26, "struck(" + i + ", " + what + ")", x.struck(i, what), rows[i][what]);
            }
        }
        due(26, "struck(4, 0)", x.struck(4, 0), BAD);
        due(26, "struck(-1, 0)", x.struck(-1, 0), BAD);
        due(26, "struck(0, -1)", x.struck(0, -1), BAD);
        due(26, "struck(0, 3)", x.struck(0, 3), BAD);
        due(25, "shows(0, 1) of a dial", x.shows(0, 1), BAD);
        due(25, "shows(0, 8) of a dial", x.shows(0, 8), BAD);
        due(25, "shows(2, 3) of a strike", x.shows(2, 3), BAD);
        due(25, "shows(2, 8) of a strike", x.shows(2, 8), BAD);
        due(25, "shows(0, -1)", x.shows(0, -1), BAD);
        due(25, "shows(0, 10)", x.shows(0, 10), BAD);
        due(25, "shows(-1, 9)", x.shows(-1, 9), BAD);
        due(25, "shows(5, 9)", x.shows(5, 9), BAD);
    }

    private static void manyStrikes() {
        WatchHouse x = Due.oneArbor(1);
        x.arbor();
        x.mesh(0, 2, 1, 1, 0);
        for (int i = 0; i < 8; i++) {
            x.strike(1, 0);
        }
        start(x, 1);
        x.run(20000);
        due(28, "more than 1000 are told", x.count(5), x.state(0) * 8);
        due(26, "enough for this test", x.count(5) > 1008 ? 1 : 0, 1);
        due(26, "struck(999, 0)", x.struck(999, 0), 125);
        due(26, "struck(999, 1)", x.struck(999, 1), 7);
        due(26, "struck(999, 2)", x.struck(999, 2), 125 % 12);
        due(26, "struck(1000, 0)", x.struck(1000, 0), BAD);
    }

    /** A calendar of each kind from many first days, against the library's days. */
    private static void calendars() {
        int[][] first = {{27, 1, 2023}, {28, 2, 1900}, {27, 2, 2000}, {26, 2, 2024}, {27, 4, 1999}, {25, 6, 1}, {29, 9, 400},
            {28, 11, 9999}, {20, 12, 9999}, {24, 12, 2023}, {29, 2, 2096}, {31, 7, 2100},
            {27, 1, 2001}, {26, 2, 401}};
        for (int[] f : first) {
            WatchHouse x = Due.oneArbor(1);
            x.arbor();
            x.mesh(0, 2, 1, 1, 0);
            for (int kind = 0; kind < 4; kind++) {
                x.calendar(1, kind, f[0], f[1], f[2]);
            }
            x.go();
            x.shock(50000);
            int[] wrong = new int[4];
            int[][] shown = {f.clone(), f.clone(), f.clone(), f.clone()};
            LocalDate truth = LocalDate.of(f[2], f[1], f[0]);
            int week = truth.getDayOfWeek().getValue() - 1;
            for (int tick = 1; tick <= 45; tick++) {
                Due.runToTick(x, tick);
                boolean last = truth.equals(LocalDate.of(9999, 12, 31));
                truth = last ? LocalDate.of(1, 1, 1) : truth.plusDays(1);
                week = (week + 1) % 7;
                for (int kind = 0; kind < 4; kind++) {
                    next(shown[kind], kind);
                    if (shown[kind][0] != truth.getDayOfMonth() || shown[kind][1] != truth.getMonthValue()) {
                        wrong[kind]++;
                    }
                    int[] want = {shown[kind][0], shown[kind][1], shown[kind][2], week, truth.getDayOfMonth(), truth.getMonthValue(),
                        truth.getYear(), wrong[kind], 0, tick};
                    for (int what = 0; what < want.length; what++) {
                        due(25, "shows(" + kind + ", " + what + ") behind " + truth, x.shows(kind, what), want[what]);
                    }
                }
            }
            due(25, "kind 3 is never WRONG", wrong[3], 0);
        }
    }

    private static void next(int[] day, int kind) {
        int[] thirty = {31, 30, 30, 30};
        int length = day[1] == 4 || day[1] == 6 || day[1] == 9 || day[1] == 11 ? thirty[kind] : 31;
        if (day[1] == 2) {
            boolean julian = day[2] % 4 == 0;
            boolean gregorian = java.time.Year.isLeap(day[2]);
            length = new int[] {31, 30, julian ? 29 : 28, gregorian ? 29 : 28}[kind];
        }
        if (day[0] < length) {
            day[0]++;
        } else {
            day[0] = 1;
            day[2] = day[1] < 12 ? day[2] : day[2] % 9999 + 1;
            day[1] = day[1] % 12 + 1;
        }
    }

    /** A day beyond the month's length is behind it, too. */
    private static void beyondLength() {
        WatchHouse x = Due.oneArbor(1);
        x.calendar(0, 3, 10, 2, 2023);
        x.go();
        x.correct(0, 0, 31);
        x.shock(50000);
        Due.runToTick(x, 2);
        due(25, "the day behind 31.2.", x.shows(0, 0), 1);
        due(25, "the month behind 31.2.", x.shows(0, 1), 3);
        due(25, "shows(0, 7)", x.shows(0, 7), 1);
    }

    private static void counts() {
        WatchHouse x = Due.oneArbor(1);
        x.arbor();
        x.arbor();
        x.mesh(0, 1, 1, 1, 0);
        x.mesh(1, 1, 2, 1, 0);
        x.dial(0, 2);
        x.strike(0, 0);
        x.strike(0, 0);
        x.strike(0, 0);
        x.chronograph(0);
        int[] before = {3, 2, 4, 1, 0, 0, 0};
        for (int what = 0; what < before.length; what++) {
            due(28, "count(" + what + ")", x.count(what), before[what]);
        }
        due(28, "count(-1)", x.count(-1), BAD);
        due(28, "count(7)", x.count(7), BAD);
        x.go();
        due(28, "count(6)", x.count(6), 1);
        x.trip(1);
        x.trip(2);
        x.run(5);
        x.run(-5);
        x.press(0, 1);
        due(28, "count(4)", x.count(4), 3);
        due(28, "count(5)", x.count(5), 2);
        x.back(1);
        due(28, "count(4)", x.count(4), 1);
        due(28, "count(5)", x.count(5), 1);
    }

    /** The document promises nothing of so many calls, but the book's limit is told. */
    private static void fullBook() {
        WatchHouse x = Due.oneArbor(1);
        x.barrel(0);
        x.strike(0, 0);
        x.dial(0, 3);
        x.chronograph(0);
        x.go();
        for (int i = 0; i < 2000; i++) {
            x.run(0);
        }
        due(28, "count(4)", x.count(4), 2000);
        due(15, "run(0)", x.run(0), FULL);
        due(15, "run(-1)", x.run(-1), BAD);
        due(16, "shock(1)", x.shock(1), FULL);
        due(17, "wind(0)", x.wind(0), FULL);
        due(18, "press(0, 0)", x.press(0, 0), FULL);
        due(18, "press(0, 1)", x.press(0, 1), NO);
        due(19, "correct(1, 0, 1)", x.correct(1, 0, 1), FULL);
        due(20, "trip(0)", x.trip(0), FULL);
        due(20, "trip(1)", x.trip(1), BAD);
        due(23, "state(3)", x.state(3), 0);
        due(27, "hand(0, 0)", x.hand(0, 0), 0);
        due(25, "shows(1, 0)", x.shows(1, 0), 0);
        due(28, "count(5)", x.count(5), 0);
        due(21, "back(1999)", x.back(1999), 0);
        due(16, "shock(1)", x.shock(1), 1);
        due(16, "shock(1)", x.shock(1), FULL);
    }

    public static void main(String[] args) {
        presses();
        corrections();
        barredByTenths();
        trips();
        tripped();
        manyStrikes();
        calendars();
        beyondLength();
        counts();
        fullBook();
        Due.end();
    }
}

import java.util.Arrays;

/**
 * A watch house: movements that are built, then go; and the house's own trains, chains, trials and
 * benches. Every call answers with a number and none throws; the document names the answers.
 */
public final class WatchHouse {
    public static final int BAD = -1, NO = -2, FULL = -3, NONE = -9999999;

    private static final int MOST_WORKS = 8;
    private static final int MOST_CHRONOGRAPHS = 4;
    private static final int MOST_STEPS = 200000;
    private static final int BOOK_ROWS = 2000;
    private static final int STRIKE_ROWS = 1000;
    private static final int RATES = 15;

    // The calls that have rows in the book.
    private static final int RUN = 0, SHOCK = 1, WIND = 2, PRESS = 3, CORRECT = 4, TRIP = 5;

    // Within these a trial's numbers are passed; those that are never below 0 have 0 as their least.
    private static final int[] PASSED_FROM = {-400, 0, 0, -120, 0, -180, -100};
    private static final int[] PASSED_TO = {600, 100, 50, 160, 1000, 180, 100};

    private final Escapement escapement = new Escapement();
    private final Gears gears = escapement.gears;
    private final Work[] works = new Work[MOST_WORKS];
    // All memory is made once: a work of some number is one of these, and works tells which.
    private final Dial[] dials = new Dial[MOST_WORKS];
    private final Calendar[] calendars = new Calendar[MOST_WORKS];
    private final Strike[] strikers = new Strike[MOST_WORKS];
    private final Chronograph[] chronographs = new Chronograph[MOST_CHRONOGRAPHS];
    private final Rows strikes = new Rows(3, STRIKE_ROWS);
    private final Rows book = new Rows(4, BOOK_ROWS);
    private int workCount;
    private int chronographCount;
    private boolean goes;

    private final Trains trains = new Trains();
    private final Chain tolerances = new Chain();
    private final int[] rates = new int[RATES];
    private final Benches benches = new Benches();

    public WatchHouse() {
        for (int i = 0; i < MOST_WORKS; i++) {
            dials[i] = new Dial();
            calendars[i] = new Calendar();
            strikers[i] = new Strike();
        }
        for (int i = 0; i < MOST_CHRONOGRAPHS; i++) {
            chronographs[i] = new Chronograph();
        }
        clearMovement();
    }

    // ---- building

    public int build() {
        int rows = book.told;
        clearMovement();
        return rows;
    }

    public int arbor() {
        return goes ? NO : gears.addArbor();
    }

    public int mesh(int a, int m, int b, int n, int ring) {
        if (!gears.hasArbor(a) || !gears.hasArbor(b) || a == b) {
            return BAD;
        }
        if (!isWithin(m, 1, 200) || !isWithin(n, 1, 200) || !isWithin(ring, 0, 1)) {
            return BAD;
        }
        return goes ? NO : gears.addLink(a, m, b, ring == 1 ? -n : n, Gears.NO_ARBOR, 0);
    }

    public int epicycle(int a, int m, int b, int n, int c) {
        if (!gears.hasArbor(a) || !gears.hasArbor(b) || !gears.hasArbor(c)) {
            return BAD;
        }
        if (a == b || a == c || b == c || !isWithin(m, 1, 200) || !isWithin(n, 1, 200)) {
            return BAD;
        }
        return goes ? NO : gears.addLink(a, m, b, n, c, -(m + n));
    }

    public int escape(int arbor, int teeth) {
        if (!gears.hasArbor(arbor) || !isWithin(teeth, 1, 60)) {
            return BAD;
        }
        if (goes) {
            return NO;
        }
        gears.setEscape(arbor, teeth);
        return 0;
    }

    public int balance(int stiff, int drag, int gain, int bank) {
        if (!isWithin(stiff, 1, 4096) || !isWithin(drag, 0, 1000)) {
            return BAD;
        }
        if (!isWithin(gain, 0, 65536) || !isWithin(bank, 1, Escapement.WIDEST_BANK)) {
            return BAD;
        }
        if (goes) {
            return NO;
        }
        escapement.setBalance(stiff, drag, gain, bank);
        return 0;
    }

    public int barrel(int arbor) {
        if (arbor != Gears.NO_ARBOR && !gears.hasArbor(arbor)) {
            return BAD;
        }
        if (goes) {
            return NO;
        }
        escapement.barrel = arbor;
        return 0;
    }

    public int torque(int k, int v) {
        if (!isWithin(k, 0, Escapement.POINTS - 1) || !isWithin(v, 0, 1000000)) {
            return BAD;
        }
        if (goes) {
            return NO;
        }
        int old = escapement.points[k];
        escapement.points[k] = v;
        return old;
    }

    public int dial(int arbor, int marks) {
        if (!gears.hasArbor(arbor) || !isWithin(marks, 2, 1000)) {
            return BAD;
        }
        if (goes) {
            return NO;
        }
        Dial dial = workCount < MOST_WORKS ? dials[workCount] : null;
        if (dial == null) {
            return FULL;
        }
        dial.begin(marks);
        return hang(dial, arbor);
    }

    public int calendar(int arbor, int kind, int day, int month, int year) {
        if (!gears.hasArbor(arbor) || !isWithin(kind, 0, 3) || !Calendar.isDay(day, month, year)) {
            return BAD;
        }
        if (goes) {
            return NO;
        }
        Calendar calendar = workCount < MOST_WORKS ? calendars[workCount] : null;
        if (calendar == null) {
            return FULL;
        }
        calendar.begin(kind, day, month, year);
        return hang(calendar, arbor);
    }

    public int strike(int arbor, int kind) {
        if (!gears.hasArbor(arbor) || !isWithin(kind, 0, 1)) {
            return BAD;
        }
        if (goes) {
            return NO;
        }
        Strike strike = workCount < MOST_WORKS ? strikers[workCount] : null;
        if (strike == null) {
            return FULL;
        }
        strike.begin(kind);
        return hang(strike, arbor);
    }

    public int chronograph(int kind) {
        if (!isWithin(kind, 0, 2)) {
            return BAD;
        }
        if (goes) {
            return NO;
        }
        Chronograph chronograph = chronographCount < MOST_CHRONOGRAPHS ? chronographs[chronographCount] : null;
        if (chronograph == null) {
            return FULL;
        }
        chronograph.begin(kind);
        return chronographCount++;
    }

    public int go() {
        if (goes || gears.escape == Gears.NO_ARBOR || gears.locked) {
            return NO;
        }
        goes = true;
        return gears.countKnown();
    }

    // ---- a movement that goes

    public int run(int n) {
        if (!isWithin(n, 0, 20000)) {
            return BAD;
        }
        if (!goes) {
            return NO;
        }
        return escapement.steps + n <= MOST_STEPS && enter(RUN, n, 0, 0) ? takeSteps(n) : FULL;
    }

    public int shock(int n) {
        if (!isWithin(n, -Escapement.FASTEST, Escapement.FASTEST)) {
            return BAD;
        }
        if (!goes) {
            return NO;
        }
        return enter(SHOCK, n, 0, 0) ? escapement.push(n) : FULL;
    }

    public int wind(int n) {
        if (!isWithin(n, 0, 100000)) {
            return BAD;
        }
        if (!goes || !gears.isKnown(escapement.barrel)) {
            return NO;
        }
        return enter(WIND, n, 0, 0) ? escapement.windUp(n) : FULL;
    }

    public int press(int chronograph, int button) {
        Chronograph pressed = chronographAt(chronograph);
        if (pressed == null || !isWithin(button, 0, 2)) {
            return BAD;
        }
        if (!goes || !pressed.gives(button)) {
            return NO;
        }
        return enter(PRESS, chronograph, button, 0) ? pressed.push(button) : FULL;
    }

    public int correct(int work, int what, int v) {
        Work corrected = workAt(work);
        if (corrected == null || !corrected.takes(what, v)) {
            return BAD;
        }
        if (!goes || isBarred(corrected)) {
            return NO;
        }
        return enter(CORRECT, work, what, v) ? putRight(work, what, v) : FULL;
    }

    public int trip(int work) {
        if (!(workAt(work) instanceof Strike)) {
            return BAD;
        }
        if (!goes) {
            return NO;
        }
        return enter(TRIP, work, 0, 0) ? strikeNow(work) : FULL;
    }

    public int back(int n) {
        if (!isWithin(n, 0, book.told)) {
            return BAD;
        }
        if (!goes) {
            return NO;
        }
        restartMovement();
        for (int i = 0; i < n; i++) {
            repeat(i);
        }
        book.told = n;
        return 0;
    }

    // ---- questions

    public long speed(int arbor, int what) {
        if (!gears.hasArbor(arbor)) {
            return NONE;
        }
        switch (what) {
            case 0: return gears.above[arbor];
            case 1: return gears.below[arbor];
            case 2: return gears.turned(arbor, escapement.ticks, 1);
            default: return NONE;
        }
    }

    public long state(int what) {
        switch (what) {
            case 0: return escapement.ticks;
            case 1: return escapement.steps;
            case 2: return escapement.place;
            case 3: return escapement.pace;
            case 4: return escapement.lever;
            case 5: return escapement.torqueNow();
            case 6: return escapement.letDown();
            case 7: return escapement.knocks;
            case 8: return escapement.swing;
            case 9: return gears.locked ? 1 : 0;
            default: return NONE;
        }
    }

    public int tick(int i, int what) {
        return escapement.rows.has(i, what) ? escapement.rows.at(i, what) : BAD;
    }

    public int shows(int work, int what) {
        Work asked = workAt(work);
        if (asked == null) {
            return BAD;
        }
        if (what == 8 && asked instanceof Calendar) {
            return isBarred(asked) ? 1 : 0;
        }
        return what == 9 ? asked.trips : asked.shown(what);
    }

    public int struck(int i, int what) {
        return strikes.has(i, what) ? strikes.at(i, what) : BAD;
    }

    public int hand(int chronograph, int what) {
        Chronograph asked = chronographAt(chronograph);
        if (asked == null) {
            return BAD;
        }
        switch (what) {
            case 0: return asked.state;
            case 1: return asked.counted;
            case 2: return asked.split;
            case 3: return asked.held ? 1 : 0;
            default: return BAD;
        }
    }

    public int count(int what) {
        switch (what) {
            case 0: return gears.arbors;
            case 1: return gears.links;
            case 2: return workCount;
            case 3: return chronographCount;
            case 4: return book.told;
            case 5: return strikes.told;
            case 6: return goes ? 1 : 0;
            default: return BAD;
        }
    }

    // ---- the house's own

    public int teeth(int kind, int low, int high) {
        if (!isWithin(kind, 0, 1) || low < Trains.FEWEST || high > Trains.MOST || high < low) {
            return BAD;
        }
        trains.setLimits(kind, low, high);
        return 0;
    }

    public int search(int above, int below, int stages) {
        if (!isWithin(above, 1, 100000) || !isWithin(below, 1, 100000)) {
            return BAD;
        }
        return isWithin(stages, 1, Trains.STAGES) ? trains.find(above, below, stages) : BAD;
    }

    public int train(int k, int side) {
        if (!isWithin(side, 0, 1) || !isWithin(k, 0, trains.stages - 1)) {
            return 0;
        }
        return side == 0 ? trains.wheels[k] : trains.pinions[k];
    }

    public long error(int what) {
        switch (what) {
            case 0: return trains.errorAbove;
            case 1: return trains.errorBelow;
            default: return NONE;
        }
    }

    public int chain() {
        int old = tolerances.sizes;
        tolerances.sizes = 0;
        return old;
    }

    public int size(int sign, int nominal, int least, int greatest) {
        if ((sign != 1 && sign != -1) || !isWithin(nominal, 0, 1000000)) {
            return BAD;
        }
        if (!isWithin(least, -10000, 10000) || !isWithin(greatest, -10000, 10000)) {
            return BAD;
        }
        if (!isWithin(greatest, least, least + Chain.WIDEST)) {
            return BAD;
        }
        return tolerances.add(sign, nominal, least, greatest);
    }

    public int limit(int side) {
        return isWithin(side, 0, 1) ? tolerances.extreme(side) : NONE;
    }

    public long ways(int low, int high) {
        return tolerances.countWays(low, high);
    }

    public int rate(int i, int rate) {
        if (!isWithin(i, 1, RATES) || !isWithin(rate, -1000, 1000)) {
            return BAD;
        }
        int old = rates[i - 1];
        rates[i - 1] = rate;
        return old;
    }

    public int verdict(int k) {
        if (k != 7) {
            return trialNumber(k);
        }
        int failed = 0;
        for (int i = 0; i < PASSED_FROM.length; i++) {
            if (!isWithin(trialNumber(i), PASSED_FROM[i], PASSED_TO[i])) {
                failed |= 1 << i;
            }
        }
        return failed;
    }

    public int change(int bench, int setting, int v) {
        if (!Benches.has(bench, setting) || !isWithin(v, -1000000, 1000000)) {
            return BAD;
        }
        return benches.put(bench, setting, v);
    }

    public int merge(int bench) {
        return Benches.has(bench, 0) ? benches.mergeCopy(bench) : BAD;
    }

    public int conflict(int bench, int setting) {
        if (!Benches.has(bench, setting)) {
            return BAD;
        }
        return benches.isConflict(bench, setting) ? 1 : 0;
    }

    public int settle(int bench, int setting, int side) {
        if (!Benches.has(bench, setting) || !isWithin(side, 0, 1)) {
            return BAD;
        }
        if (!benches.isConflict(bench, setting)) {
            return NO;
        }
        benches.decide(bench, setting, side);
        return 0;
    }

    public int setting(int version, int setting) {
        if (!isWithin(setting, 0, Benches.SETTINGS - 1)) {
            return NONE;
        }
        if (isWithin(version, 0, benches.newest)) {
            return benches.ofVersion(version, setting);
        }
        return isWithin(version, -Benches.BENCHES, -1) ? benches.ofCopy(-1 - version, setting) : NONE;
    }

    public int version(int what) {
        if (what == 0) {
            return benches.newest;
        }
        return isWithin(what, 1, Benches.BENCHES) ? benches.taken[what - 1] : BAD;
    }

    /**
     * None of the five can come about, so there is nothing to count: go() refuses a locked movement
     * and no link changes behind it; find() tries every train; a calendar of kind 3 shows and keeps
     * the true day by the same lengths from the same first day; a rack is asked for its hour alone;
     * and mergeCopy() takes a setting of one side only where the other side left it as it was.
     */
    public int never(int what) {
        return isWithin(what, 0, 4) ? 0 : BAD;
    }

    // ---- what the calls share

    private static boolean isWithin(int n, int low, int high) {
        return n >= low && n <= high;
    }

    private static long commonDivisor(long a, long b) {
        long greater = Math.abs(a);
        long lesser = Math.abs(b);
        // Two steps at least halve a number, so a long is done within 128.
        for (int i = 0; i < 200 && lesser != 0; i++) {
            long left = greater % lesser;
            greater = lesser;
            lesser = left;
        }
        return greater;
    }

    private void clearMovement() {
        gears.clear();
        escapement.clear();
        workCount = 0;
        chronographCount = 0;
        strikes.told = 0;
        book.told = 0;
        goes = false;
    }

    /** As it was right behind go(); the book stays, since its rows are carried out again from here. */
    private void restartMovement() {
        escapement.restart();
        strikes.told = 0;
        for (int i = 0; i < workCount; i++) {
            Work work = workAt(i);
            if (work != null) {
                renew(work);
            }
        }
        for (int i = 0; i < chronographCount; i++) {
            Chronograph chronograph = chronographAt(i);
            if (chronograph != null) {
                chronograph.restart();
            }
        }
    }

    private Work workAt(int i) {
        return isWithin(i, 0, workCount - 1) ? works[i] : null;
    }

    private Chronograph chronographAt(int i) {
        return isWithin(i, 0, chronographCount - 1) ? chronographs[i] : null;
    }

    /** Hangs the work that bears the next number; there is room for it. */
    private int hang(Work work, int arbor) {
        work.arbor = arbor;
        renew(work);
        works[workCount] = work;
        return workCount++;
    }

    private static void renew(Work work) {
        work.trips = 0;
        work.restart();
    }

    private boolean isBarred(Work work) {
        return work instanceof Calendar && gears.isNearTurn(work.arbor, escapement.ticks);
    }

    /** The book is asked last: whether it has taken a row for a call that is to be carried out. */
    private boolean enter(int call, int a, int b, int c) {
        if (book.told >= BOOK_ROWS) {
            return false;
        }
        int row = book.open();
        book.write(row, 0, call);
        book.write(row, 1, a);
        book.write(row, 2, b);
        book.write(row, 3, c);
        return true;
    }

    /** Carries out a row of the book again. */
    private int repeat(int row) {
        int a = book.at(row, 1);
        int b = book.at(row, 2);
        switch (book.at(row, 0)) {
            case RUN: return takeSteps(a);
            case SHOCK: return escapement.push(a);
            case WIND: return escapement.windUp(a);
            case PRESS: return pushButton(a, b);
            case CORRECT: return putRight(a, b, book.at(row, 3));
            case TRIP: return strikeNow(a);
            default: return BAD;
        }
    }

    private int takeSteps(int n) {
        int before = escapement.ticks;
        for (int i = 0; i < n; i++) {
            if (escapement.step()) {
                passTick();
            }
        }
        return escapement.ticks - before;
    }

    private void passTick() {
        for (int i = 0; i < chronographCount; i++) {
            Chronograph chronograph = chronographs[i];
            if (chronograph != null) {
                chronograph.countTick();
            }
        }
        int ticks = escapement.ticks;
        for (int i = 0; i < workCount; i++) {
            Work work = works[i];
            if (work != null && gears.turned(work.arbor, ticks, 1) > gears.turned(work.arbor, ticks - 1, 1)) {
                work.trips++;
                work.advance();
                if (work instanceof Strike tripped && !tripped.isSilent()) {
                    tellStrike(i, tripped);
                }
            }
        }
    }

    private int pushButton(int chronograph, int button) {
        Chronograph pressed = chronographAt(chronograph);
        return pressed == null ? BAD : pressed.push(button);
    }

    private int putRight(int work, int what, int v) {
        Work corrected = workAt(work);
        if (corrected == null) {
            return BAD;
        }
        corrected.put(what, v);
        return 0;
    }

    private int strikeNow(int work) {
        return workAt(work) instanceof Strike asked ? tellStrike(work, asked) : BAD;
    }

    /** A strike strikes, and a row of that is told: how often. */
    private int tellStrike(int work, Strike striking) {
        int times = striking.sound();
        int row = strikes.open();
        strikes.write(row, 0, escapement.ticks);
        strikes.write(row, 1, work);
        strikes.write(row, 2, times);
        return times;
    }

    private int trialNumber(int k) {
        switch (k) {
            case 0: return sumOfTen();
            case 1: return sumOfPairs();
            case 2: return greatestOfPairs();
            case 3: return rates[0] + rates[1] - rates[8] - rates[9];
            case 4: return farthestFromMean();
            case 5: return rates[12] - rates[10];
            case 6: return 2 * rates[14] - rates[0] - rates[1];
            default: return NONE;
        }
    }

    private int sumOfTen() {
        int sum = 0;
        for (int i = 0; i < 10; i++) {
            sum += rates[i];
        }
        return sum;
    }

    private int sumOfPairs() {
        int sum = 0;
        for (int i = 0; i < 10; i += 2) {
            sum += Math.abs(rates[i] - rates[i + 1]);
        }
        return sum;
    }

    private int greatestOfPairs() {
        int greatest = 0;
        for (int i = 0; i < 10; i += 2) {
            greatest = Math.max(greatest, Math.abs(rates[i] - rates[i + 1]));
        }
        return greatest;
    }

    private int farthestFromMean() {
        int sum = sumOfTen();
        int farthest = 0;
        for (int i = 0; i < 10; i++) {
            farthest = Math.max(farthest, Math.abs(10 * rates[i] - sum));
        }
        return farthest;
    }

    /** Rows of some numbers each: all that are told are counted, the first of them kept. */
    private static final class Rows {
        private final int width;
        private final int most;
        private final int[] cells;
        int told;

        Rows(int width, int most) {
            this.width = width;
            this.most = most;
            cells = new int[width * most];
        }

        /** Tells one more row: where to write it, or -1 if it is not kept. */
        int open() {
            told++;
            return told <= most ? told - 1 : -1;
        }

        boolean has(int row, int column) {
            return row >= 0 && row < most && row < told && column >= 0 && column < width;
        }

        int at(int row, int column) {
            return has(row, column) ? cells[row * width + column] : BAD;
        }

        void write(int row, int column, int value) {
            int at = row * width + column;
            if (row >= 0 && column >= 0 && column < width && at < cells.length) {
                cells[at] = value;
            }
        }
    }

    /**
     * Arbors, links and speeds. A link is held as three arbors with a factor each, whose turns times
     * the factors are 0 together: so one rule serves meshes, rings and epicycles.
     */
    private static final class Gears {
        static final int NO_ARBOR = -1;
        private static final int MOST_ARBORS = 24;
        private static final int MOST_LINKS = 40;
        private static final int PLACES = 3;
        private static final long GREATEST = 10000000;

        int arbors;
        int links;
        int escape;
        int teeth;
        boolean locked;
        /** An arbor's speed in lowest terms; 0 below: it is not known. */
        final long[] above = new long[MOST_ARBORS];
        final long[] below = new long[MOST_ARBORS];
        /** In so many ticks an arbor turns as often as its speed has above; 0: it is not known. */
        private final long[] periods = new long[MOST_ARBORS];
        private final int[] linked = new int[MOST_LINKS * PLACES];
        private final int[] factors = new int[MOST_LINKS * PLACES];
        /** What solve() found. */
        private long solvedAbove;
        private long solvedBelow;

        void clear() {
            arbors = 0;
            links = 0;
            escape = NO_ARBOR;
            teeth = 0;
            locked = false;
            forgetSpeeds();
        }

        boolean hasArbor(int arbor) {
            return arbor >= 0 && arbor < arbors;
        }

        boolean isKnown(int arbor) {
            return hasArbor(arbor) && below[arbor] > 0;
        }

        int addArbor() {
            return arbors < MOST_ARBORS ? arbors++ : FULL;
        }

        int addLink(int a, int ofA, int b, int ofB, int c, int ofC) {
            if (links >= MOST_LINKS) {
                return FULL;
            }
            setPlace(links * PLACES, a, ofA);
            setPlace(links * PLACES + 1, b, ofB);
            setPlace(links * PLACES + 2, c, ofC);
            links++;
            findSpeeds();
            return links - 1;
        }

        private void setPlace(int at, int arbor, int factor) {
            linked[at] = arbor;
            factors[at] = factor;
        }

        void setEscape(int arbor, int teeth) {
            escape = arbor;
            this.teeth = teeth;
            findSpeeds();
        }

        int countKnown() {
            int known = 0;
            for (int i = 0; i < arbors; i++) {
                if (isKnown(i)) {
                    known++;
                }
            }
            return known;
        }

        /** How many parts of a turn (1: whole turns) an arbor has done by so many ticks. */
        long turned(int arbor, int ticks, int parts) {
            if (arbor < 0 || arbor >= MOST_ARBORS || periods[arbor] <= 0) {
                return 0;
            }
            return parts * Math.abs(above[arbor]) * ticks / periods[arbor];
        }

        /** Whether three quarters of an arbor's next turn are done. */
        boolean isNearTurn(int arbor, int ticks) {
            if (arbor < 0 || arbor >= MOST_ARBORS || periods[arbor] <= 0) {
                return false;
            }
            return Math.abs(above[arbor]) * ticks % periods[arbor] * 4 >= periods[arbor] * 3;
        }

        private void forgetSpeeds() {
            Arrays.fill(above, 0);
            Arrays.fill(below, 0);
            Arrays.fill(periods, 0);
        }

        private void findSpeeds() {
            forgetSpeeds();
            if (hasArbor(escape)) {
                above[escape] = 1;
                below[escape] = 1;
            }
            // Each round but the last tells an arbor, so there are never more rounds than arbors.
            boolean told = true;
            for (int round = 0; told && round <= MOST_ARBORS; round++) {
                told = tellRound();
            }
            for (int i = 0; i < MOST_ARBORS; i++) {
                periods[i] = below[i] * 2 * teeth;
            }
            locked = isSomeLinkBroken();
        }

        private boolean tellRound() {
            boolean told = false;
            for (int link = 0; link < links; link++) {
                if (countUnknown(link) == 1 && tellBy(link)) {
                    told = true;
                }
            }
            return told;
        }

        private int countUnknown(int link) {
            int unknown = 0;
            for (int place = 0; place < PLACES; place++) {
                int arbor = linked[link * PLACES + place];
                if (hasArbor(arbor) && below[arbor] == 0) {
                    unknown++;
                }
            }
            return unknown;
        }

        private boolean tellBy(int link) {
            for (int place = 0; place < PLACES; place++) {
                int arbor = linked[link * PLACES + place];
                if (hasArbor(arbor) && below[arbor] == 0) {
                    solve(link, place);
                    if (Math.abs(solvedAbove) > GREATEST || solvedBelow > GREATEST) {
                        return false;
                    }
                    above[arbor] = solvedAbove;
                    below[arbor] = solvedBelow;
                    return solvedBelow > 0;
                }
            }
            return false;
        }

        private boolean isSomeLinkBroken() {
            for (int link = 0; link < links; link++) {
                if (countUnknown(link) == 0) {
                    int arbor = linked[link * PLACES];
                    solve(link, 0);
                    if (hasArbor(arbor) && (above[arbor] != solvedAbove || below[arbor] != solvedBelow)) {
                        return true;
                    }
                }
            }
            return false;
        }

        /**
         * The speed that a link asks of the arbor at one place, by the speeds at its others. Solving
         * for one arbor, rather than adding up all three, keeps every product within a long.
         */
        private void solve(int link, int place) {
            long sumAbove = 0;
            long sumBelow = 1;
            for (int i = 0; i < PLACES; i++) {
                int arbor = linked[link * PLACES + i];
                if (i != place && hasArbor(arbor)) {
                    sumAbove = sumAbove * below[arbor] + factors[link * PLACES + i] * above[arbor] * sumBelow;
                    sumBelow = sumBelow * below[arbor];
                }
            }
            long divisor = sumBelow * factors[link * PLACES + place];
            long common = commonDivisor(sumAbove, divisor);
            solvedAbove = 0;
            solvedBelow = 0;
            if (common != 0) {
                long sign = divisor > 0 ? -1 : 1;
                solvedAbove = sign * sumAbove / common;
                solvedBelow = -sign * divisor / common;
            }
        }
    }

    /** The balance, the lever and the spring that drives them. */
    private static final class Escapement {
        static final int POINTS = 9;
        static final int WIDEST_BANK = 10000000;
        static final int FASTEST = 1000000;
        private static final int TICK_ROWS = 3000;

        final Gears gears = new Gears();
        private int stiff;
        private int drag;
        private int gain;
        private int bank;
        int barrel;
        final int[] points = new int[POINTS];
        private long wound;
        int place;
        int pace;
        int lever;
        int steps;
        int ticks;
        int knocks;
        int swing;
        final Rows rows = new Rows(2, TICK_ROWS);

        void clear() {
            setBalance(1, 0, 0, WIDEST_BANK);
            barrel = Gears.NO_ARBOR;
            Arrays.fill(points, 0);
            restart();
        }

        void setBalance(int stiff, int drag, int gain, int bank) {
            this.stiff = stiff;
            this.drag = drag;
            this.gain = gain;
            this.bank = bank;
        }

        void restart() {
            wound = 0;
            place = 0;
            pace = 0;
            lever = -1;
            steps = 0;
            ticks = 0;
            knocks = 0;
            swing = 0;
            rows.told = 0;
        }

        int push(int n) {
            pace = held((long) pace + n);
            return pace;
        }

        int windUp(int n) {
            long turned = Math.min(n, letDown());
            wound += turned;
            return (int) turned;
        }

        /** In 256ths of a turn; a barrel that is not known has turned 0 and is never wound. */
        long letDown() {
            return gears.turned(barrel, ticks, 256) - wound;
        }

        /** Without a known barrel nothing is let down, and the torque is that of point 0. */
        int torqueNow() {
            long down = letDown();
            if (down < 0 || down >> 8 > POINTS - 2) {
                return 0;
            }
            int k = (int) (down >> 8);
            int f = (int) (down & 255);
            return points[k] + ((points[k + 1] - points[k]) * f >> 8);
        }

        /** One step: whether there was a tick. */
        boolean step() {
            steps++;
            pace = held(pace - ((long) place * stiff >> 16));
            pace = pace > 0 ? Math.max(0, pace - drag) : Math.min(0, pace + drag);
            place += pace;
            if (Math.abs(place) > bank) {
                place = place > 0 ? bank : -bank;
                pace = -pace;
                knocks++;
            }
            swing = Math.max(swing, Math.abs(place));
            boolean free = lever < 0 ? place >= 0 && pace > 0 : place <= 0 && pace < 0;
            int torque = free ? torqueNow() : 0;
            if (torque > 0) {
                beat(torque);
            }
            return torque > 0;
        }

        private void beat(int torque) {
            lever = -lever;
            long impulse = (long) torque * gain >> 16;
            pace = held(pace > 0 ? pace + impulse : pace - impulse);
            ticks++;
            int row = rows.open();
            rows.write(row, 0, steps);
            rows.write(row, 1, swing);
            swing = 0;
        }

        private static int held(long pace) {
            return (int) Math.max(-FASTEST, Math.min(FASTEST, pace));
        }
    }

    /** What hangs on an arbor and is tripped by its turns. */
    private abstract static class Work {
        int arbor;
        int trips;

        /** As it was when it was built. */
        abstract void restart();

        abstract void advance();

        /** Whether it can be corrected to v in this. */
        abstract boolean takes(int what, int v);

        abstract void put(int what, int v);

        /** What it shows, or BAD if it has no such thing. */
        abstract int shown(int what);
    }

    private static final class Dial extends Work {
        private int marks;
        private int mark;

        void begin(int marks) {
            this.marks = marks;
        }

        @Override
        void restart() {
            mark = 0;
        }

        @Override
        void advance() {
            mark = mark < marks - 1 ? mark + 1 : 0;
        }

        @Override
        boolean takes(int what, int v) {
            return what == 0 && isWithin(v, 0, marks - 1);
        }

        @Override
        void put(int what, int v) {
            mark = v;
        }

        @Override
        int shown(int what) {
            return what == 0 ? mark : BAD;
        }
    }

    private static final class Calendar extends Work {
        private static final int LAST_YEAR = 9999;
        private static final int TRUE_KIND = 3;

        private int kind;
        private int firstDay;
        private int firstMonth;
        private int firstYear;
        private int day;
        private int month;
        private int year;
        private int weekDay;
        private int trueDay;
        private int trueMonth;
        private int trueYear;
        private int wrongs;

        void begin(int kind, int day, int month, int year) {
            this.kind = kind;
            firstDay = day;
            firstMonth = month;
            firstYear = year;
        }

        static boolean isDay(int day, int month, int year) {
            return isWithin(year, 1, LAST_YEAR) && isWithin(month, 1, 12)
                && isWithin(day, 1, length(TRUE_KIND, month, year));
        }

        /** The length that a calendar of a kind gives a month. */
        private static int length(int kind, int month, int year) {
            if (kind == 0) {
                return 31;
            }
            if (month == 2 && kind > 1) {
                boolean century = kind == TRUE_KIND && year % 100 == 0 && year % 400 != 0;
                return year % 4 == 0 && !century ? 29 : 28;
            }
            return month == 2 || month == 4 || month == 6 || month == 9 || month == 11 ? 30 : 31;
        }

        /** Counted from 1.1.1, which was a Monday. */
        private static int weekDayOf(int day, int month, int year) {
            int past = year - 1;
            int days = past * 365 + past / 4 - past / 100 + past / 400 + day - 1;
            for (int m = 1; m < month && m <= 12; m++) {
                days += length(TRUE_KIND, m, year);
            }
            return days % 7;
        }

        @Override
        void restart() {
            day = firstDay;
            month = firstMonth;
            year = firstYear;
            weekDay = weekDayOf(day, month, year);
            trueDay = day;
            trueMonth = month;
            trueYear = year;
            wrongs = 0;
        }

        @Override
        void advance() {
            advanceTrue();
            advanceShown();
            if (day != trueDay || month != trueMonth) {
                wrongs++;
            }
        }

        private void advanceTrue() {
            if (trueDay < length(TRUE_KIND, trueMonth, trueYear)) {
                trueDay++;
                return;
            }
            trueDay = 1;
            trueMonth = nextMonth(trueMonth);
            trueYear = yearBehind(trueMonth, trueYear);
        }

        private void advanceShown() {
            weekDay = weekDay < 6 ? weekDay + 1 : 0;
            if (day < length(kind, month, year)) {
                day++;
                return;
            }
            day = 1;
            month = nextMonth(month);
            year = yearBehind(month, year);
        }

        private static int nextMonth(int month) {
            return month < 12 ? month + 1 : 1;
        }

        /** The year when a month has just begun: another one in the first month. */
        private static int yearBehind(int month, int year) {
            if (month != 1) {
                return year;
            }
            return year < LAST_YEAR ? year + 1 : 1;
        }

        @Override
        boolean takes(int what, int v) {
            switch (what) {
                case 0: return isWithin(v, 1, 31);
                case 1: return isWithin(v, 1, 12);
                case 2: return isWithin(v, 1, LAST_YEAR);
                case 3: return isWithin(v, 0, 6);
                default: return false;
            }
        }

        @Override
        void put(int what, int v) {
            switch (what) {
                case 0: day = v; break;
                case 1: month = v; break;
                case 2: year = v; break;
                case 3: weekDay = v; break;
                default: break;
            }
        }

        @Override
        int shown(int what) {
            switch (what) {
                case 0: return day;
                case 1: return month;
                case 2: return year;
                case 3: return weekDay;
                case 4: return trueDay;
                case 5: return trueMonth;
                case 6: return trueYear;
                case 7: return wrongs;
                default: return BAD;
            }
        }
    }

    private static final class Strike extends Work {
        private int kind;
        private int hour;
        private int place;
        private int silent;

        void begin(int kind) {
            this.kind = kind;
        }

        boolean isSilent() {
            return silent == 1;
        }

        @Override
        void restart() {
            hour = 12;
            place = 1;
            silent = 0;
        }

        @Override
        void advance() {
            hour = nextOfTwelve(hour);
        }

        /** Strikes: how often. */
        int sound() {
            if (kind == 0) {
                return hour;
            }
            int times = place;
            place = nextOfTwelve(place);
            return times;
        }

        private static int nextOfTwelve(int n) {
            return n < 12 ? n + 1 : 1;
        }

        @Override
        boolean takes(int what, int v) {
            switch (what) {
                case 0:
                case 1: return isWithin(v, 1, 12);
                case 2: return isWithin(v, 0, 1);
                default: return false;
            }
        }

        @Override
        void put(int what, int v) {
            switch (what) {
                case 0: hour = v; break;
                case 1: place = v; break;
                case 2: silent = v; break;
                default: break;
            }
        }

        @Override
        int shown(int what) {
            switch (what) {
                case 0: return hour;
                case 1: return place;
                case 2: return silent;
                default: return BAD;
            }
        }
    }

    private static final class Chronograph {
        private static final int ZERO = 0, RUNS = 1, STOPPED = 2;
        private static final int FLYBACK = 1, SPLIT = 2;

        private int kind;
        int state;
        int counted;
        int split;
        boolean held;

        void begin(int kind) {
            this.kind = kind;
            restart();
        }

        void restart() {
            state = ZERO;
            held = false;
            setCount(0);
        }

        void countTick() {
            if (state == RUNS) {
                setCount(counted + 1);
            }
        }

        private void setCount(int n) {
            counted = n;
            if (!held) {
                split = n;
            }
        }

        /** Whether a button does anything now. */
        boolean gives(int button) {
            switch (button) {
                case 0: return true;
                case 1: return !held && (state == STOPPED || (state == RUNS && kind == FLYBACK));
                case 2: return kind == SPLIT && (held || state != ZERO);
                default: return false;
            }
        }

        /** Does what a button does that gives: the state then. */
        int push(int button) {
            switch (button) {
                case 0:
                    state = state == RUNS ? STOPPED : RUNS;
                    break;
                case 1:
                    state = state == STOPPED ? ZERO : state;
                    setCount(0);
                    break;
                case 2:
                    held = !held;
                    setCount(counted);
                    break;
                default:
                    break;
            }
            return state;
        }
    }

    /** Trains of wheels and pinions within limits, and the best of them for a ratio. */
    private static final class Trains {
        static final int STAGES = 3;
        static final int FEWEST = 4;
        static final int MOST = 200;
        private static final long MOST_TRIED = 200000;

        private int wheelsFrom = 20;
        private int wheelsTo = 40;
        private int pinionsFrom = 6;
        private int pinionsTo = 12;
        int stages;
        final int[] wheels = new int[STAGES];
        final int[] pinions = new int[STAGES];
        long errorAbove;
        long errorBelow;
        private long ratioAbove;
        private long ratioBelow;
        /** The best train's distance from the ratio, times its pinions' product and ratioBelow; and that product. */
        private long bestMiss;
        private long bestPinions;
        private final int[] triedWheels = new int[STAGES];
        private final int[] triedPinions = new int[STAGES];

        void setLimits(int kind, int low, int high) {
            if (kind == 0) {
                wheelsFrom = low;
                wheelsTo = high;
            } else {
                pinionsFrom = low;
                pinionsTo = high;
            }
        }

        int find(int above, int below, int most) {
            long tried = (long) rowsOf(most, wheelsFrom, wheelsTo) * rowsOf(most, pinionsFrom, pinionsTo);
            if (tried > MOST_TRIED) {
                return FULL;
            }
            ratioAbove = above;
            ratioBelow = below;
            bestPinions = 0;
            // Trains are tried in the order of preference, so one that is only as good never replaces another.
            for (int n = 1; n <= most && !isPerfect(); n++) {
                tryWheels(n);
            }
            setError();
            return stages;
        }

        /** How many rows of so many numbers there are that do not fall. */
        private static int rowsOf(int length, int low, int high) {
            int n = high - low + 1;
            switch (length) {
                case 1: return n;
                case 2: return n * (n + 1) / 2;
                default: return n * (n + 1) * (n + 2) / 6;
            }
        }

        private boolean isPerfect() {
            return bestPinions > 0 && bestMiss == 0;
        }

        private void tryWheels(int length) {
            int rows = rowsOf(length, wheelsFrom, wheelsTo);
            Arrays.fill(triedWheels, wheelsFrom);
            for (int i = 0; i < rows && !isPerfect(); i++) {
                tryPinions(length, productOf(triedWheels, length) * ratioBelow);
                nextRow(triedWheels, length, wheelsTo);
            }
        }

        private void tryPinions(int length, long wanted) {
            int rows = rowsOf(length, pinionsFrom, pinionsTo);
            Arrays.fill(triedPinions, pinionsFrom);
            for (int i = 0; i < rows; i++) {
                long product = productOf(triedPinions, length);
                long miss = Math.abs(wanted - product * ratioAbove);
                // At most 8 * 10^11 times 8 * 10^6: within a long.
                if (bestPinions == 0 || miss * bestPinions < bestMiss * product) {
                    keep(length, miss, product);
                }
                nextRow(triedPinions, length, pinionsTo);
            }
        }

        private static long productOf(int[] row, int length) {
            long product = 1;
            for (int i = 0; i < length && i < row.length; i++) {
                product *= row[i];
            }
            return product;
        }

        /** The next row by the first number that differs; behind the last one the row stays. */
        private static void nextRow(int[] row, int length, int high) {
            int end = Math.min(length, row.length);
            for (int i = end - 1; i >= 0; i--) {
                if (row[i] < high) {
                    int least = row[i] + 1;
                    for (int k = i; k < end; k++) {
                        row[k] = least;
                    }
                    return;
                }
            }
        }

        private void keep(int length, long miss, long product) {
            stages = length;
            bestMiss = miss;
            bestPinions = product;
            System.arraycopy(triedWheels, 0, wheels, 0, STAGES);
            System.arraycopy(triedPinions, 0, pinions, 0, STAGES);
        }

        private void setError() {
            long below = bestPinions * ratioBelow;
            long common = commonDivisor(bestMiss, below);
            errorAbove = common > 0 ? bestMiss / common : 0;
            errorBelow = common > 0 ? below / common : 0;
        }
    }

    /** A chain of tolerances. */
    private static final class Chain {
        static final int WIDEST = 99;
        private static final int MOST_SIZES = 8;
        private static final int SUMS = MOST_SIZES * WIDEST + 1;

        int sizes;
        private final int[] signs = new int[MOST_SIZES];
        private final int[] nominals = new int[MOST_SIZES];
        private final int[] leasts = new int[MOST_SIZES];
        private final int[] greatests = new int[MOST_SIZES];
        /** How many ways there are to each sum, counted from the least sum on. */
        private final long[] ways = new long[SUMS];

        int add(int sign, int nominal, int least, int greatest) {
            if (sizes >= MOST_SIZES) {
                return FULL;
            }
            signs[sizes] = sign;
            nominals[sizes] = nominal;
            leasts[sizes] = least;
            greatests[sizes] = greatest;
            return sizes++;
        }

        /** The least (side 0) or the greatest sum (1). */
        int extreme(int side) {
            int sum = 0;
            for (int i = 0; i < sizes; i++) {
                boolean least = (side == 0) == (signs[i] > 0);
                sum += signs[i] * (nominals[i] + (least ? leasts[i] : greatests[i]));
            }
            return sum;
        }

        long countWays(int low, int high) {
            Arrays.fill(ways, 0);
            ways[0] = 1;
            for (int i = 0; i < sizes; i++) {
                spread(greatests[i] - leasts[i]);
            }
            long least = extreme(0);
            long all = 0;
            for (int i = 0; i < SUMS; i++) {
                if (least + i >= low && least + i <= high) {
                    all += ways[i];
                }
            }
            return all;
        }

        /** One size more, of so many deviations beside its first: each sum is reached from those that lie so far below. */
        private void spread(int width) {
            for (int i = 1; i < SUMS; i++) {
                ways[i] += ways[i - 1];
            }
            for (int i = SUMS - 1; i > width; i--) {
                ways[i] -= ways[i - width - 1];
            }
        }
    }

    /** The settings: their versions, and a copy for each bench. */
    private static final class Benches {
        static final int BENCHES = 4;
        static final int SETTINGS = 32;
        private static final int LAST_VERSION = 500;

        int newest;
        /** The version that each bench's copy was taken from. */
        final int[] taken = new int[BENCHES];
        private final int[] versions = new int[(LAST_VERSION + 1) * SETTINGS];
        private final int[] copies = new int[BENCHES * SETTINGS];
        /** Conflicts that were settled for the copy. */
        private final boolean[] settled = new boolean[BENCHES * SETTINGS];

        static boolean has(int bench, int setting) {
            return isWithin(bench, 0, BENCHES - 1) && isWithin(setting, 0, SETTINGS - 1);
        }

        int ofVersion(int version, int setting) {
            return versions[version * SETTINGS + setting];
        }

        int ofCopy(int bench, int setting) {
            return copies[bench * SETTINGS + setting];
        }

        int put(int bench, int setting, int v) {
            int at = bench * SETTINGS + setting;
            int old = copies[at];
            copies[at] = v;
            settled[at] = false;
            return old;
        }

        boolean isConflict(int bench, int setting) {
            int base = ofVersion(taken[bench], setting);
            int mine = ofCopy(bench, setting);
            int fresh = ofVersion(newest, setting);
            return mine != base && fresh != base && mine != fresh && !settled[bench * SETTINGS + setting];
        }

        void decide(int bench, int setting, int side) {
            int at = bench * SETTINGS + setting;
            if (side == 0) {
                copies[at] = ofVersion(newest, setting);
            } else {
                settled[at] = true;
            }
        }

        int mergeCopy(int bench) {
            int conflicts = countConflicts(bench);
            if (conflicts > 0) {
                return conflicts;
            }
            boolean differs = keepsOwn(bench);
            if (differs && newest >= LAST_VERSION) {
                return FULL;
            }
            takeOthers(bench);
            if (differs) {
                newest++;
                System.arraycopy(copies, bench * SETTINGS, versions, newest * SETTINGS, SETTINGS);
            }
            taken[bench] = newest;
            return 0;
        }

        private int countConflicts(int bench) {
            int conflicts = 0;
            for (int i = 0; i < SETTINGS; i++) {
                if (isConflict(bench, i)) {
                    conflicts++;
                }
            }
            return conflicts;
        }

        /** Whether a merge would leave the copy other than the newest version. */
        private boolean keepsOwn(int bench) {
            for (int i = 0; i < SETTINGS; i++) {
                int mine = ofCopy(bench, i);
                if (mine != ofVersion(taken[bench], i) && mine != ofVersion(newest, i)) {
                    return true;
                }
            }
            return false;
        }

        private void takeOthers(int bench) {
            for (int i = 0; i < SETTINGS; i++) {
                if (ofCopy(bench, i) == ofVersion(taken[bench], i)) {
                    copies[bench * SETTINGS + i] = ofVersion(newest, i);
                }
                settled[bench * SETTINGS + i] = false;
            }
        }
    }
}

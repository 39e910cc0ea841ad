import java.math.BigInteger;
import java.time.DayOfWeek;
import java.time.LocalDate;
import java.util.ArrayList;
import java.util.HashMap;
import java.util.HashSet;
import java.util.List;
import java.util.Map;
import java.util.Set;
import java.util.TreeMap;

/**
 * The document once more, written another way so that the same slip is not made twice: exact fractions, kept
 * copies instead of a book that is repeated, the library's days, trains and ways simply tried or summed up.
 */
public final class Model {
    private static final int BAD = -1, NO = -2, FULL = -3, NONE = -9999999;

    /** An exact fraction in lowest terms. */
    private record Q(BigInteger p, BigInteger q) {
        static Q of(BigInteger p, BigInteger q) {
            BigInteger g = p.gcd(q);
            if (q.signum() < 0) {
                g = g.negate();
            }
            return new Q(p.divide(g), q.divide(g));
        }

        static Q of(long p, long q) {
            return of(BigInteger.valueOf(p), BigInteger.valueOf(q));
        }

        Q plus(Q o) {
            return of(p.multiply(o.q).add(o.p.multiply(q)), q.multiply(o.q));
        }

        Q times(Q o) {
            return of(p.multiply(o.p), q.multiply(o.q));
        }

        Q times(long n) {
            return times(of(n, 1));
        }

        Q over(long n) {
            return times(of(1, n));
        }

        Q minus(Q o) {
            return plus(o.times(-1));
        }

        Q size() {
            return new Q(p.abs(), q);
        }

        int compare(Q o) {
            return p.multiply(o.q).compareTo(o.p.multiply(q));
        }

        long floor() {
            return p.divide(q).longValueExact();
        }

        boolean fits() {
            BigInteger most = BigInteger.valueOf(10000000);
            return p.abs().compareTo(most) <= 0 && q.compareTo(most) <= 0;
        }
    }

    /** kind 0 mesh, 1 ring, 2 epicycle */
    private record Link(int kind, int a, int m, int b, int n, int c) {
        int[] arbors() {
            return kind == 2 ? new int[] {a, b, c} : new int[] {a, b};
        }

        Q told(int arbor, Q[] s) {
            if (kind < 2) {
                int sign = kind == 0 ? -1 : 1;
                return arbor == b ? s[a].times((long) sign * m).over(n) : s[b].times((long) sign * n).over(m);
            }
            if (arbor == c) {
                return s[a].times(m).plus(s[b].times(n)).over(m + n);
            }
            if (arbor == a) {
                return s[c].times(m + n).minus(s[b].times(n)).over(m);
            }
            return s[c].times(m + n).minus(s[a].times(m)).over(n);
        }

        boolean holds(Q[] s) {
            Q left = s[a].times(m);
            Q right = s[b].times(n);
            Q sum = switch (kind) {
                case 0 -> left.plus(right);
                case 1 -> left.minus(right);
                default -> left.plus(right).minus(s[c].times(m + n));
            };
            return sum.p.signum() == 0;
        }
    }

    private static final class Work implements Cloneable {
        char type;
        int arbor, kind, marks, trips, wrong, hour = 12, place = 1, silent, mark;
        int day, month, year, week;
        LocalDate truth;

        Work copy() {
            try {
                return (Work) clone();
            } catch (CloneNotSupportedException e) {
                throw new IllegalStateException(e);
            }
        }
    }

    private static final class Chrono {
        int kind, state, count, split;
        boolean held;

        Chrono copy() {
            Chrono c = new Chrono();
            c.kind = kind;
            c.state = state;
            c.count = count;
            c.split = split;
            c.held = held;
            return c;
        }
    }

    /** What changes while a movement goes. */
    private static final class Going {
        long x, v, lever = -1, n, steps, knocks, greatest, wound;
        List<int[]> ticks = new ArrayList<>();
        List<int[]> strikes = new ArrayList<>();
        List<Work> works = new ArrayList<>();
        List<Chrono> chronos = new ArrayList<>();

        Going copy() {
            Going g = new Going();
            g.x = x;
            g.v = v;
            g.lever = lever;
            g.n = n;
            g.steps = steps;
            g.knocks = knocks;
            g.greatest = greatest;
            g.wound = wound;
            g.ticks.addAll(ticks);
            g.strikes.addAll(strikes);
            works.forEach(w -> g.works.add(w.copy()));
            chronos.forEach(c -> g.chronos.add(c.copy()));
            return g;
        }
    }

    private int arbors, escape, z, stiff, drag, gain, bank, barrel;
    private int[] points;
    private List<Link> links;
    private boolean goes;
    private Going g;
    private List<Going> kept;

    private final int[][] limits = {{20, 40}, {6, 12}};
    private int[] bestW, bestP;
    private Q bestError;
    private List<int[]> sizes = new ArrayList<>();
    private final int[] d = new int[16];
    private final List<int[]> versions = new ArrayList<>();
    private final int[][] copy = new int[4][32];
    private final int[] base = new int[4];
    private final List<Set<Integer>> settled = new ArrayList<>();

    public Model() {
        fresh();
        versions.add(new int[32]);
        for (int i = 0; i < 4; i++) {
            settled.add(new HashSet<>());
        }
    }

    private void fresh() {
        arbors = 0;
        escape = -1;
        z = 0;
        stiff = 1;
        drag = 0;
        gain = 0;
        bank = 10000000;
        barrel = -1;
        points = new int[9];
        links = new ArrayList<>();
        goes = false;
        g = new Going();
        kept = new ArrayList<>();
    }

    private int rows() {
        return goes ? kept.size() - 1 : 0;
    }

    private static boolean in(long v, long a, long b) {
        return v >= a && v <= b;
    }

    private boolean ar(int a) {
        return in(a, 0, arbors - 1);
    }

    private Q[] speeds() {
        Q[] s = new Q[24];
        if (escape < 0) {
            return s;
        }
        s[escape] = Q.of(1, 1);
        boolean again = true;
        while (again) {
            again = false;
            for (Link l : links) {
                int unknown = -1;
                int n = 0;
                for (int a : l.arbors()) {
                    if (s[a] == null) {
                        unknown = a;
                        n++;
                    }
                }
                if (n == 1) {
                    Q q = l.told(unknown, s);
                    if (q.fits()) {
                        s[unknown] = q;
                        again = true;
                    }
                }
            }
        }
        return s;
    }

    private boolean locked() {
        Q[] s = speeds();
        for (Link l : links) {
            boolean all = true;
            for (int a : l.arbors()) {
                all &= s[a] != null;
            }
            if (all && !l.holds(s)) {
                return true;
            }
        }
        return false;
    }

    private Q turned(Q s, long n) {
        return s.size().times(n).over(2L * z);
    }

    // ---- building

    public int build() {
        int r = rows();
        fresh();
        return r;
    }

    public int arbor() {
        return goes ? NO : arbors == 24 ? FULL : arbors++;
    }

    private int link(Link l) {
        if (goes) {
            return NO;
        }
        if (links.size() == 40) {
            return FULL;
        }
        links.add(l);
        return links.size() - 1;
    }

    public int mesh(int a, int m, int b, int n, int ring) {
        boolean ok = ar(a) && ar(b) && a != b && in(m, 1, 200) && in(n, 1, 200) && in(ring, 0, 1);
        return ok ? link(new Link(ring, a, m, b, n, -1)) : BAD;
    }

    public int epicycle(int a, int m, int b, int n, int c) {
        boolean ok = ar(a) && ar(b) && ar(c) && a != b && b != c && a != c && in(m, 1, 200) && in(n, 1, 200);
        return ok ? link(new Link(2, a, m, b, n, c)) : BAD;
    }

    public int escape(int arbor, int teeth) {
        if (!ar(arbor) || !in(teeth, 1, 60)) {
            return BAD;
        }
        if (goes) {
            return NO;
        }
        escape = arbor;
        z = teeth;
        return 0;
    }

    public int balance(int s, int dr, int ga, int ba) {
        if (!in(s, 1, 4096) || !in(dr, 0, 1000) || !in(ga, 0, 65536) || !in(ba, 1, 10000000)) {
            return BAD;
        }
        if (goes) {
            return NO;
        }
        stiff = s;
        drag = dr;
        gain = ga;
        bank = ba;
        return 0;
    }

    public int barrel(int arbor) {
        if (arbor != -1 && !ar(arbor)) {
            return BAD;
        }
        if (goes) {
            return NO;
        }
        barrel = arbor;
        return 0;
    }

    public int torque(int k, int v) {
        if (!in(k, 0, 8) || !in(v, 0, 1000000)) {
            return BAD;
        }
        if (goes) {
            return NO;
        }
        int old = points[k];
        points[k] = v;
        return old;
    }

    private int hang(Work w) {
        if (goes) {
            return NO;
        }
        if (g.works.size() == 8) {
            return FULL;
        }
        g.works.add(w);
        return g.works.size() - 1;
    }

    public int dial(int arbor, int marks) {
        if (!ar(arbor) || !in(marks, 2, 1000)) {
            return BAD;
        }
        Work w = new Work();
        w.type = 'd';
        w.arbor = arbor;
        w.marks = marks;
        return hang(w);
    }

    public int calendar(int arbor, int kind, int day, int month, int year) {
        if (!ar(arbor) || !in(kind, 0, 3) || !in(year, 1, 9999) || !in(month, 1, 12) || day < 1
            || day > java.time.YearMonth.of(year, month).lengthOfMonth()) {
            return BAD;
        }
        Work w = new Work();
        w.type = 'c';
        w.arbor = arbor;
        w.kind = kind;
        w.truth = LocalDate.of(year, month, day);
        w.day = day;
        w.month = month;
        w.year = year;
        w.week = w.truth.getDayOfWeek().getValue() - DayOfWeek.MONDAY.getValue();
        return hang(w);
    }

    public int strike(int arbor, int kind) {
        if (!ar(arbor) || !in(kind, 0, 1)) {
            return BAD;
        }
        Work w = new Work();
        w.type = 's';
        w.arbor = arbor;
        w.kind = kind;
        return hang(w);
    }

    public int chronograph(int kind) {
        if (!in(kind, 0, 2)) {
            return BAD;
        }
        if (goes) {
            return NO;
        }
        if (g.chronos.size() == 4) {
            return FULL;
        }
        Chrono c = new Chrono();
        c.kind = kind;
        g.chronos.add(c);
        return g.chronos.size() - 1;
    }

    public int go() {
        if (goes || escape < 0 || locked()) {
            return NO;
        }
        goes = true;
        kept.add(g.copy());
        int n = 0;
        for (Q q : speeds()) {
            n += q == null ? 0 : 1;
        }
        return n;
    }

    // ---- a movement that goes

    private int written(int answer) {
        kept.add(g.copy());
        return answer;
    }

    private boolean bookFull() {
        return rows() >= 2000;
    }

    private static long held(long v) {
        return v > 1000000 ? 1000000 : v < -1000000 ? -1000000 : v;
    }

    private long down(Q[] s) {
        return barrel < 0 || s[barrel] == null ? 0 : turned(s[barrel], g.n).times(256).floor() - g.wound;
    }

    private long torque(Q[] s) {
        long l = down(s);
        long k = Math.floorDiv(l, 256L);
        long f = Math.floorMod(l, 256L);
        return k > 7 ? 0 : points[(int) k] + Math.floorDiv((points[(int) k + 1] - points[(int) k]) * f, 256L);
    }

    public int run(int n) {
        if (!in(n, 0, 20000)) {
            return BAD;
        }
        if (!goes) {
            return NO;
        }
        if (g.steps + n > 200000 || bookFull()) {
            return FULL;
        }
        Q[] s = speeds();
        long before = g.n;
        for (int i = 0; i < n; i++) {
            step(s);
        }
        return written((int) (g.n - before));
    }

    private void step(Q[] s) {
        g.steps++;
        g.v = held(g.v - Math.floorDiv(g.x * stiff, 65536L));
        g.v = Math.abs(g.v) <= drag ? 0 : g.v - Long.signum(g.v) * drag;
        g.x += g.v;
        if (g.x > bank || g.x < -bank) {
            g.x = g.x > bank ? bank : -bank;
            g.v = -g.v;
            g.knocks++;
        }
        g.greatest = Math.max(g.greatest, Math.abs(g.x));
        boolean right = g.lever == -1 && g.x >= 0 && g.v > 0;
        boolean left = g.lever == 1 && g.x <= 0 && g.v < 0;
        if (!right && !left) {
            return;
        }
        long t = torque(s);
        if (t <= 0) {
            return;
        }
        g.lever = right ? 1 : -1;
        long more = Math.floorDiv(t * gain, 65536L);
        g.v = held(right ? g.v + more : g.v - more);
        g.n++;
        g.ticks.add(new int[] {(int) g.steps, (int) g.greatest});
        g.greatest = 0;
        for (Chrono c : g.chronos) {
            if (c.state == 1) {
                c.count++;
                if (!c.held) {
                    c.split = c.count;
                }
            }
        }
        for (int i = 0; i < g.works.size(); i++) {
            Work w = g.works.get(i);
            if (s[w.arbor] != null && turned(s[w.arbor], g.n).floor() > turned(s[w.arbor], g.n - 1).floor()) {
                w.trips++;
                trip(i, w);
            }
        }
    }

    private void trip(int i, Work w) {
        if (w.type == 'd') {
            w.mark = (w.mark + 1) % w.marks;
        } else if (w.type == 's') {
            w.hour = w.hour % 12 + 1;
            if (w.silent == 0) {
                sound(i, w);
            }
        } else {
            LocalDate last = LocalDate.of(9999, 12, 31);
            w.truth = w.truth.equals(last) ? LocalDate.of(1, 1, 1) : w.truth.plusDays(1);
            w.week = (w.week + 1) % 7;
            w.day++;
            if (w.day > length(w)) {
                w.day = 1;
                w.month++;
            }
            if (w.month == 13) {
                w.month = 1;
                w.year = w.year % 9999 + 1;
            }
            if (w.day != w.truth.getDayOfMonth() || w.month != w.truth.getMonthValue()) {
                w.wrong++;
            }
        }
    }

    private static int length(Work w) {
        if (w.kind == 0) {
            return 31;
        }
        if (w.kind == 3) {
            return java.time.YearMonth.of(w.year, w.month).lengthOfMonth();
        }
        if (w.month == 2) {
            return w.kind == 1 ? 30 : w.year % 4 == 0 ? 29 : 28;
        }
        return List.of(4, 6, 9, 11).contains(w.month) ? 30 : 31;
    }

    private int sound(int i, Work w) {
        int times = w.kind == 0 ? w.hour : w.place;
        if (w.kind == 1) {
            w.place = w.place % 12 + 1;
        }
        g.strikes.add(new int[] {(int) g.n, i, times});
        return times;
    }

    public int shock(int n) {
        if (!in(n, -1000000, 1000000)) {
            return BAD;
        }
        if (!goes) {
            return NO;
        }
        if (bookFull()) {
            return FULL;
        }
        g.v = held(g.v + n);
        return written((int) g.v);
    }

    public int wind(int n) {
        if (!in(n, 0, 100000)) {
            return BAD;
        }
        Q[] s = speeds();
        if (!goes || barrel < 0 || s[barrel] == null) {
            return NO;
        }
        if (bookFull()) {
            return FULL;
        }
        long by = Math.min(n, down(s));
        g.wound += by;
        return written((int) by);
    }

    public int press(int chronograph, int button) {
        if (!in(chronograph, 0, g.chronos.size() - 1) || !in(button, 0, 2)) {
            return BAD;
        }
        if (!goes) {
            return NO;
        }
        Chrono c = g.chronos.get(chronograph).copy();
        boolean done = false;
        if (button == 0) {
            c.state = Map.of(0, 1, 2, 1, 1, 2).get(c.state);
            done = true;
        } else if (button == 1 && !c.held && c.state == 2) {
            c.state = 0;
            c.count = 0;
            done = true;
        } else if (button == 1 && !c.held && c.state == 1 && c.kind == 1) {
            c.count = 0;
            done = true;
        } else if (button == 2 && c.kind == 2 && (c.held || c.state != 0)) {
            c.held = !c.held;
            done = true;
        }
        if (!done) {
            return NO;
        }
        if (bookFull()) {
            return FULL;
        }
        if (!c.held) {
            c.split = c.count;
        }
        g.chronos.set(chronograph, c);
        return written(c.state);
    }

    private boolean barred(Work w) {
        Q s = speeds()[w.arbor];
        if (w.type != 'c' || s == null) {
            return false;
        }
        Q t = turned(s, g.n);
        return t.minus(Q.of(t.floor(), 1)).compare(Q.of(3, 4)) >= 0;
    }

    public int correct(int work, int what, int v) {
        if (!in(work, 0, g.works.size() - 1)) {
            return BAD;
        }
        Work w = g.works.get(work);
        int[][] ranges = w.type == 'd' ? new int[][] {{0, w.marks - 1}}
            : w.type == 'c' ? new int[][] {{1, 31}, {1, 12}, {1, 9999}, {0, 6}}
            : new int[][] {{1, 12}, {1, 12}, {0, 1}};
        if (!in(what, 0, ranges.length - 1) || !in(v, ranges[what][0], ranges[what][1])) {
            return BAD;
        }
        if (!goes || barred(w)) {
            return NO;
        }
        if (bookFull()) {
            return FULL;
        }
        switch ("" + w.type + what) {
            case "d0" -> w.mark = v;
            case "c0" -> w.day = v;
            case "c1" -> w.month = v;
            case "c2" -> w.year = v;
            case "c3" -> w.week = v;
            case "s0" -> w.hour = v;
            case "s1" -> w.place = v;
            default -> w.silent = v;
        }
        return written(0);
    }

    public int trip(int work) {
        if (!in(work, 0, g.works.size() - 1) || g.works.get(work).type != 's') {
            return BAD;
        }
        if (!goes) {
            return NO;
        }
        if (bookFull()) {
            return FULL;
        }
        return written(sound(work, g.works.get(work)));
    }

    public int back(int n) {
        if (!in(n, 0, rows())) {
            return BAD;
        }
        if (!goes) {
            return NO;
        }
        kept = new ArrayList<>(kept.subList(0, n + 1));
        g = kept.get(n).copy();
        return 0;
    }

    // ---- questions

    public long speed(int arbor, int what) {
        if (!ar(arbor) || !in(what, 0, 2)) {
            return NONE;
        }
        Q s = speeds()[arbor];
        if (s == null) {
            return 0;
        }
        return what == 0 ? s.p.longValueExact() : what == 1 ? s.q.longValueExact() : turned(s, g.n).floor();
    }

    public long state(int what) {
        return switch (what) {
            case 0 -> g.n;
            case 1 -> g.steps;
            case 2 -> g.x;
            case 3 -> g.v;
            case 4 -> g.lever;
            case 5 -> torque(speeds());
            case 6 -> down(speeds());
            case 7 -> g.knocks;
            case 8 -> g.greatest;
            case 9 -> locked() ? 1 : 0;
            default -> NONE;
        };
    }

    private static int row(List<int[]> rows, int most, int width, int i, int what) {
        return in(i, 0, rows.size() - 1) && i < most && in(what, 0, width - 1) ? rows.get(i)[what] : BAD;
    }

    public int tick(int i, int what) {
        return row(g.ticks, 3000, 2, i, what);
    }

    public int shows(int work, int what) {
        if (!in(work, 0, g.works.size() - 1)) {
            return BAD;
        }
        Work w = g.works.get(work);
        if (what == 9) {
            return w.trips;
        }
        int[] all = w.type == 'd' ? new int[] {w.mark}
            : w.type == 's' ? new int[] {w.hour, w.place, w.silent}
            : new int[] {w.day, w.month, w.year, w.week, w.truth.getDayOfMonth(), w.truth.getMonthValue(),
                w.truth.getYear(), w.wrong, barred(w) ? 1 : 0};
        return in(what, 0, all.length - 1) ? all[what] : BAD;
    }

    public int struck(int i, int what) {
        return row(g.strikes, 1000, 3, i, what);
    }

    public int hand(int chronograph, int what) {
        if (!in(chronograph, 0, g.chronos.size() - 1) || !in(what, 0, 3)) {
            return BAD;
        }
        Chrono c = g.chronos.get(chronograph);
        return new int[] {c.state, c.count, c.split, c.held ? 1 : 0}[what];
    }

    public int count(int what) {
        int[] all = {arbors, links.size(), g.works.size(), g.chronos.size(), rows(), g.strikes.size(), goes ? 1 : 0};
        return in(what, 0, 6) ? all[what] : BAD;
    }

    // ---- the house's own

    public int teeth(int kind, int low, int high) {
        if (!in(kind, 0, 1) || low < 4 || high > 200 || high < low) {
            return BAD;
        }
        limits[kind] = new int[] {low, high};
        return 0;
    }

    private static void fill(List<int[]> rows, int[] row, int at, int low, int high) {
        if (at == row.length) {
            rows.add(row.clone());
            return;
        }
        for (int i = low; i <= high; i++) {
            row[at] = i;
            fill(rows, row, at + 1, i, high);
        }
    }

    private static BigInteger choices(int n, int s) {
        BigInteger c = BigInteger.ONE;
        for (int i = 0; i < s; i++) {
            c = c.multiply(BigInteger.valueOf(n + i)).divide(BigInteger.valueOf(i + 1));
        }
        return c;
    }

    private static long product(int[] row) {
        long p = 1;
        for (int i : row) {
            p *= i;
        }
        return p;
    }

    public int search(int above, int below, int stages) {
        if (!in(above, 1, 100000) || !in(below, 1, 100000) || !in(stages, 1, 3)) {
            return BAD;
        }
        BigInteger all = choices(limits[0][1] - limits[0][0] + 1, stages).multiply(choices(limits[1][1] - limits[1][0] + 1, stages));
        if (all.compareTo(BigInteger.valueOf(200000)) > 0) {
            return FULL;
        }
        bestW = null;
        double near = Double.MAX_VALUE;
        // From the least wanted to the most wanted train, so that of equals the later one is right.
        for (int s = stages; s >= 1; s--) {
            List<int[]> ws = new ArrayList<>();
            List<int[]> ps = new ArrayList<>();
            fill(ws, new int[s], 0, limits[0][0], limits[0][1]);
            fill(ps, new int[s], 0, limits[1][0], limits[1][1]);
            for (int i = ws.size() - 1; i >= 0; i--) {
                for (int j = ps.size() - 1; j >= 0; j--) {
                    double guess = Math.abs((double) product(ws.get(i)) / product(ps.get(j)) - (double) above / below);
                    // The guess is only to spare the exact fractions where they can not matter.
                    if (guess > near + 1e-6 * (1 + (double) above / below)) {
                        continue;
                    }
                    Q error = Q.of(product(ws.get(i)), product(ps.get(j))).minus(Q.of(above, below)).size();
                    if (bestW == null || error.compare(bestError) <= 0) {
                        bestW = ws.get(i);
                        bestP = ps.get(j);
                        bestError = error;
                        near = guess;
                    }
                }
            }
        }
        return bestW.length;
    }

    public int train(int k, int side) {
        if (bestW == null || !in(side, 0, 1) || !in(k, 0, bestW.length - 1)) {
            return 0;
        }
        return (side == 0 ? bestW : bestP)[k];
    }

    public long error(int what) {
        if (!in(what, 0, 1)) {
            return NONE;
        }
        return bestW == null ? 0 : what == 0 ? bestError.p.longValueExact() : bestError.q.longValueExact();
    }

    public int chain() {
        int n = sizes.size();
        sizes = new ArrayList<>();
        return n;
    }

    public int size(int sign, int nominal, int least, int greatest) {
        if (Math.abs((long) sign) != 1 || !in(nominal, 0, 1000000) || !in(least, -10000, 10000)
            || !in(greatest, -10000, 10000) || greatest < least || greatest > least + 99) {
            return BAD;
        }
        if (sizes.size() == 8) {
            return FULL;
        }
        sizes.add(new int[] {sign, nominal, least, greatest});
        return sizes.size() - 1;
    }

    private TreeMap<Integer, Long> sums() {
        TreeMap<Integer, Long> sums = new TreeMap<>();
        sums.put(0, 1L);
        for (int[] s : sizes) {
            TreeMap<Integer, Long> next = new TreeMap<>();
            for (Map.Entry<Integer, Long> e : sums.entrySet()) {
                for (int dev = s[2]; dev <= s[3]; dev++) {
                    next.merge(e.getKey() + s[0] * (s[1] + dev), e.getValue(), Long::sum);
                }
            }
            sums = next;
        }
        return sums;
    }

    public int limit(int side) {
        return side == 0 ? sums().firstKey() : side == 1 ? sums().lastKey() : NONE;
    }

    public long ways(int low, int high) {
        long n = 0;
        for (Map.Entry<Integer, Long> e : sums().entrySet()) {
            n += in(e.getKey(), low, high) ? e.getValue() : 0;
        }
        return n;
    }

    public int rate(int i, int rate) {
        if (!in(i, 1, 15) || !in(rate, -1000, 1000)) {
            return BAD;
        }
        int old = d[i];
        d[i] = rate;
        return old;
    }

    public int verdict(int k) {
        int sum = 0;
        for (int i = 1; i <= 10; i++) {
            sum += d[i];
        }
        int[] pairs = {Math.abs(d[1] - d[2]), Math.abs(d[3] - d[4]), Math.abs(d[5] - d[6]), Math.abs(d[7] - d[8]),
            Math.abs(d[9] - d[10])};
        int all = 0;
        int top = 0;
        for (int p : pairs) {
            all += p;
            top = Math.max(top, p);
        }
        int far = 0;
        for (int i = 1; i <= 10; i++) {
            far = Math.max(far, Math.abs(10 * d[i] - sum));
        }
        int[] n = {sum, all, top, d[1] + d[2] - d[9] - d[10], far, d[13] - d[11], 2 * d[15] - d[1] - d[2]};
        boolean[] ok = {in(n[0], -400, 600), n[1] <= 100, n[2] <= 50, in(n[3], -120, 160), n[4] <= 1000,
            in(n[5], -180, 180), in(n[6], -100, 100)};
        int bits = 0;
        for (int i = 0; i < 7; i++) {
            bits += ok[i] ? 0 : 1 << i;
        }
        return in(k, 0, 6) ? n[k] : k == 7 ? bits : NONE;
    }

    private static boolean known(int bench, int setting) {
        return in(bench, 0, 3) && in(setting, 0, 31);
    }

    public int change(int bench, int setting, int v) {
        if (!known(bench, setting) || !in(v, -1000000, 1000000)) {
            return BAD;
        }
        settled.get(bench).remove(setting);
        int old = copy[bench][setting];
        copy[bench][setting] = v;
        return old;
    }

    private int[] newest() {
        return versions.get(versions.size() - 1);
    }

    private boolean clash(int b, int s) {
        int was = versions.get(base[b])[s];
        int mine = copy[b][s];
        int now = newest()[s];
        if (mine == was || now == was || mine == now) {
            return false;
        }
        return !settled.get(b).contains(s);
    }

    public int merge(int bench) {
        if (!known(bench, 0)) {
            return BAD;
        }
        int[] merged = new int[32];
        int conflicts = 0;
        for (int s = 0; s < 32; s++) {
            conflicts += clash(bench, s) ? 1 : 0;
            merged[s] = copy[bench][s] == versions.get(base[bench])[s] ? newest()[s] : copy[bench][s];
        }
        if (conflicts > 0) {
            return conflicts;
        }
        if (!java.util.Arrays.equals(merged, newest())) {
            if (versions.size() == 501) {
                return FULL;
            }
            versions.add(merged.clone());
        }
        copy[bench] = merged;
        base[bench] = versions.size() - 1;
        settled.get(bench).clear();
        return 0;
    }

    public int conflict(int bench, int setting) {
        return !known(bench, setting) ? BAD : clash(bench, setting) ? 1 : 0;
    }

    public int settle(int bench, int setting, int side) {
        if (!known(bench, setting) || !in(side, 0, 1)) {
            return BAD;
        }
        if (!clash(bench, setting)) {
            return NO;
        }
        if (side == 0) {
            copy[bench][setting] = newest()[setting];
        } else {
            settled.get(bench).add(setting);
        }
        return 0;
    }

    public int setting(int version, int setting) {
        Map<Integer, int[]> all = new HashMap<>();
        for (int i = 0; i < versions.size(); i++) {
            all.put(i, versions.get(i));
        }
        for (int b = 0; b < 4; b++) {
            all.put(-1 - b, copy[b]);
        }
        return all.containsKey(version) && in(setting, 0, 31) ? all.get(version)[setting] : NONE;
    }

    public int version(int what) {
        return what == 0 ? versions.size() - 1 : in(what, 1, 4) ? base[what - 1] : BAD;
    }

    public int never(int what) {
        return in(what, 0, 4) ? 0 : BAD;
    }
}

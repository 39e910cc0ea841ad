import java.util.function.Supplier;

/** Boundaries of promises 29 to 45: one method for each sentence. */
final class EdgesHouse {
    private static final int BAD = Edge.BAD, NO = Edge.NO, FULL = Edge.FULL, NONE = Edge.NONE;
    private static final String FIRST = "of several the one named first is answered";

    private EdgesHouse() {
    }

    private static void says(int promise, String sentence) {
        Edge.says(promise, sentence);
    }

    private static void due(String call, long got, long want) {
        Edge.due(call, got, want);
    }

    private static void refuses(String call, long want, Supplier<WatchHouse> made, Edge.Call asked) {
        Edge.refuses(call, want, made, asked);
    }

    /** Something of each of the house's own, and a movement with nothing in it. */
    static WatchHouse furnished() {
        WatchHouse x = new WatchHouse();
        furnish(x);
        return x;
    }

    static void furnish(WatchHouse x) {
        x.teeth(0, 30, 50);
        x.teeth(1, 7, 9);
        x.search(22, 7, 2);
        x.size(1, 100, -2, 3);
        x.size(-1, 40, 0, 9);
        for (int i = 1; i <= 15; i++) {
            x.rate(i, 3 * i - 20);
        }
        for (int i = 0; i < 5; i++) {
            x.change(0, i, 10 + i);
            x.change(1, i, 20 + i);
        }
        x.merge(0);
        x.settle(1, 0, 1);
        x.settle(1, 1, 0);
    }

    // ---- 29

    private static void teeth() {
        says(29, "BAD: kind is not 0, 1");
        Edge.range("teeth(kind, 30, 31)", 0, 1, 0, EdgesHouse::furnished, (x, v) -> x.teeth(v, 30, 31));
        for (int kind = 0; kind <= 1; kind++) {
            int of = kind;
            says(29, "low is below 4");
            Edge.outside("teeth(" + kind + ", low, 20)", 4, 20, EdgesHouse::furnished, (x, v) -> x.teeth(of, v, 20));
            due("teeth(" + kind + ", 4, 20)", furnished().teeth(kind, 4, 20), 0);
            says(29, "high above 200");
            Edge.outside("teeth(" + kind + ", 20, high)", 20, 200, EdgesHouse::furnished, (x, v) -> x.teeth(of, 20, v));
            due("teeth(" + kind + ", 20, 200)", furnished().teeth(kind, 20, 200), 0);
            says(29, "or high below low");
            refuses("teeth(" + kind + ", 21, 20)", BAD, EdgesHouse::furnished, x -> x.teeth(of, 21, 20));
            refuses("teeth(" + kind + ", 200, 4)", BAD, EdgesHouse::furnished, x -> x.teeth(of, 200, 4));
            due("teeth(" + kind + ", 20, 20)", furnished().teeth(kind, 20, 20), 0);
            due("teeth(" + kind + ", 4, 4)", furnished().teeth(kind, 4, 4), 0);
            due("teeth(" + kind + ", 200, 200)", furnished().teeth(kind, 200, 200), 0);
        }
    }

    private static void extremes(String when, WatchHouse x, int... limits) {
        x.search(100000, 1, 1);
        due("the greatest wheel " + when, x.train(0, 0), limits[1]);
        due("the least pinion " + when, x.train(0, 1), limits[2]);
        x.search(1, 100000, 1);
        due("the least wheel " + when, x.train(0, 0), limits[0]);
        due("the greatest pinion " + when, x.train(0, 1), limits[3]);
    }

    private static void firstLimits() {
        says(29, "with wheels and pinions within limits (20 .. 40, 6 .. 12 at first)");
        extremes("at first", new WatchHouse(), 20, 40, 6, 12);
        WatchHouse x = new WatchHouse();
        x.teeth(0, 4, 200);
        extremes("behind teeth(0, 4, 200)", x, 4, 200, 6, 12);
        x.teeth(1, 4, 200);
        extremes("behind teeth(1, 4, 200)", x, 4, 200, 4, 200);
        x.teeth(0, 9, 9);
        extremes("behind teeth(0, 9, 9)", x, 9, 9, 4, 200);
    }

    // ---- 30

    private static void searchNumbers() {
        says(30, "BAD: above or below is not 1 .. 100000");
        Edge.range("search(above, 1, 1)", 1, 100000, 1, EdgesHouse::furnished, (x, v) -> x.search(v, 1, 1));
        Edge.range("search(1, below, 1)", 1, 100000, 1, EdgesHouse::furnished, (x, v) -> x.search(1, v, 1));
        says(30, "stages not 1 .. 3");
        Edge.range("search(4, 1, stages)", 1, 3, 1, EdgesHouse::wide, (x, v) -> x.search(4, 1, v));
    }

    private static WatchHouse wide() {
        WatchHouse x = furnished();
        x.teeth(0, 20, 40);
        return x;
    }

    /** Wheels of so many numbers up to 200, pinions of so many from 4 on, and a train that was found before. */
    private static WatchHouse limited(int wheels, int pinions) {
        WatchHouse x = furnished();
        x.teeth(0, 201 - wheels, 200);
        x.teeth(1, 4, 3 + pinions);
        return x;
    }

    private static void mostRows() {
        says(30, "(Rows of wheels times rows of pinions with s stages more than 200000: FULL.)");
        int[][] cases = {{197, 197, 1, 38809}, {7, 119, 2, 199920}, {119, 7, 2, 199920}, {1, 105, 3, 198485}, {105, 1, 3, 198485},
            {4, 38, 3, 197600}};
        for (int[] c : cases) {
            due(c[3] + " rows with " + c[2] + " stages are searched", limited(c[0], c[1]).search(1, 1, c[2]) > 0 ? 1 : 0, 1);
        }
        int[][] beyond = {{8, 105, 2, 200340}, {105, 8, 2, 200340}, {5, 163, 2, 200490}, {2, 66, 3, 200464}, {66, 2, 3, 200464},
            {106, 1, 3, 204156}};
        for (int[] c : beyond) {
            refuses(c[3] + " rows with " + c[2] + " stages", FULL, () -> limited(c[0], c[1]), x -> x.search(1, 1, c[2]));
            due("with fewer stages they are searched", limited(c[0], c[1]).search(1, 1, c[2] - 1) > 0 ? 1 : 0, 1);
        }
        refuses("more rows than an int can tell", FULL, () -> limited(197, 197), x -> x.search(1, 1, 3));
        refuses("more rows than an int can tell, with 2 stages", FULL, () -> limited(197, 197), x -> x.search(1, 1, 2));
    }

    private static void searchRefused() {
        says(30, "FULL: as told (the one before stays)");
        WatchHouse x = limited(197, 197);
        long[] before = {x.train(0, 0), x.train(0, 1), x.error(0), x.error(1)};
        due("search(3, 2, 3)", x.search(3, 2, 3), FULL);
        due("a train was found before", before[0] > 0 ? 1 : 0, 1);
        long[] then = {x.train(0, 0), x.train(0, 1), x.error(0), x.error(1)};
        for (int i = 0; i < 4; i++) {
            due("what stays of it, " + i, then[i], before[i]);
        }
        says(30, FIRST);
        refuses("search(0, 1, 3)", BAD, () -> limited(197, 197), y -> y.search(0, 1, 3));
        refuses("search(1, 100001, 3)", BAD, () -> limited(197, 197), y -> y.search(1, 100001, 3));
        refuses("search(1, 1, 4)", BAD, () -> limited(197, 197), y -> y.search(1, 1, 4));
    }

    private static void trainIs(String what, WatchHouse x, int[] wheels, int[] pinions) {
        for (int k = 0; k < 3; k++) {
            due(what + ": train(" + k + ", 0)", x.train(k, 0), k < wheels.length ? wheels[k] : 0);
            due(what + ": train(" + k + ", 1)", x.train(k, 1), k < pinions.length ? pinions[k] : 0);
        }
    }

    private static int[] row(int... of) {
        return of;
    }

    private static WatchHouse found(int[] limits, int above, int below, int stages) {
        WatchHouse x = new WatchHouse();
        x.teeth(0, limits[0], limits[1]);
        x.teeth(1, limits[2], limits[3]);
        x.search(above, below, stages);
        return x;
    }

    private static void equallyGood() {
        says(30, "The best has the least error; of these the fewest stages");
        trainIs("one stage is enough", found(row(20, 40, 6, 12), 4, 1, 3), row(24), row(6));
        trainIs("the first of all trains is the best", found(row(20, 40, 6, 12), 20, 6, 3), row(20), row(6));
        trainIs("two stages are enough", found(row(20, 40, 6, 12), 12, 1, 3), row(20, 36), row(6, 10));
        trainIs("a lesser error is worth a stage", found(row(20, 21, 10, 10), 4, 1, 2), row(20, 20), row(10, 10));
        says(30, "of these the least row of wheels (by the first that differs), then of pinions");
        trainIs("wheels of the same error on both sides", found(row(20, 24, 6, 6), 43, 12, 1), row(21), row(6));
        trainIs("pinions of the same error on both sides", found(row(60, 60, 30, 31), 61, 31, 1), row(60), row(30));
        trainIs("wheels of the same product", found(row(20, 30, 10, 10), 6, 1, 2), row(20, 30), row(10, 10));
        trainIs("pinions of the same product", found(row(20, 20, 6, 12), 50, 9, 2), row(20, 20), row(6, 12));
        says(30, "each row not falling");
        trainIs("all at their least", found(row(10, 12, 20, 22), 1, 100000, 3), row(10, 10, 10), row(22, 22, 22));
        trainIs("all at their greatest", found(row(20, 22, 10, 12), 100000, 1, 3), row(22, 22, 22), row(10, 10, 10));
    }

    // ---- 31, 32

    private static void trains() {
        says(31, "0: none such");
        WatchHouse x = new WatchHouse();
        Edge.Asked wheel = (y, v) -> y.train(v, 0);
        for (int k : new int[] {Edge.LEAST, -1, 0, 1, 2, 3, Edge.MOST}) {
            due("train(" + k + ", 0) before any", wheel.of(x, k), 0);
            due("train(" + k + ", 1) before any", x.train(k, 1), 0);
        }
        for (int stages = 1; stages <= 3; stages++) {
            due("search()", x.search(100000, 1, stages), stages);
            Edge.question("train(k, 0) of " + stages, 0, stages - 1, 0, x, wheel);
            Edge.question("train(k, 1) of " + stages, 0, stages - 1, 0, x, (y, v) -> y.train(v, 1));
            Edge.question("train(0, side)", 0, 1, 0, x, (y, v) -> y.train(0, v));
        }
        x.search(4, 1, 1);
        due("train(1, 0) of a shorter one behind a longer one", x.train(1, 0), 0);
        due("train(2, 1)", x.train(2, 1), 0);
    }

    private static void errors() {
        says(32, "0 before any; NONE: another what");
        WatchHouse x = new WatchHouse();
        due("error(0)", x.error(0), 0);
        due("error(1)", x.error(1), 0);
        Edge.question("error(what)", 0, 1, NONE, x, WatchHouse::error);
        x.search(0, 1, 1);
        due("error(1) behind a search that was refused", x.error(1), 0);
        says(32, "in lowest terms");
        x.search(4, 1, 1);
        due("error(0) of none", x.error(0), 0);
        due("error(1) of none", x.error(1), 1);
        x.search(100000, 1, 2);
        due("error(0)", x.error(0), 899600);
        due("error(1)", x.error(1), 9);
        WatchHouse seventh = found(row(20, 20, 7, 7), 3, 1, 1);
        due("error(0) of 20 / 7 for 3", seventh.error(0), 1);
        due("error(1) of 20 / 7 for 3", seventh.error(1), 7);
        x.search(1, 100000, 1);
        // 20 / 12 less 1 / 100000
        due("error(0)", x.error(0), 499997);
        due("error(1)", x.error(1), 300000);
        Edge.question("error(what)", 0, 1, NONE, x, WatchHouse::error);
        says(32, "Its ERROR is the size of the wheels' product / the pinions' less the ratio.");
        // 200 * 200 * 200 / (150 * 150 * 150) is 64 / 27
        WatchHouse y = found(row(190, 200, 150, 150), 100000, 1, 3);
        due("error(0) of a train that is too slow", y.error(0), 2700000 - 64);
        due("error(1)", y.error(1), 27);
        WatchHouse z = found(row(150, 150, 190, 200), 1, 100000, 3);
        due("error(0) of a train that is too fast", z.error(0), (2700000 - 64) / 32);
        due("error(1)", z.error(1), 200000);
    }

    // ---- 33 to 36

    private static WatchHouse fullChain() {
        WatchHouse x = new WatchHouse();
        for (int i = 0; i < 8; i++) {
            due("size()", x.size(i % 2 == 0 ? 1 : -1, 1000000, -10000, -9901), i);
        }
        return x;
    }

    private static void chains() {
        says(33, "A chain begins anew: how many sizes the old one had.");
        WatchHouse x = new WatchHouse();
        due("chain() of none", x.chain(), 0);
        x.size(1, 5, 0, 0);
        due("chain() of one", x.chain(), 1);
        due("chain() again", x.chain(), 0);
        due("limit(1)", x.limit(1), 0);
        WatchHouse y = fullChain();
        due("chain() of eight", y.chain(), 8);
        due("size() of the new one", y.size(1, 5, 0, 0), 0);
        due("limit(0) of the new one", y.limit(0), 5);
    }

    private static void sizes() {
        says(34, "BAD: sign is not 1, -1");
        for (int sign : new int[] {0, 2, -2, Edge.LEAST, Edge.MOST}) {
            refuses("size(" + sign + ", 0, 0, 0)", BAD, EdgesHouse::furnished, x -> x.size(sign, 0, 0, 0));
        }
        due("size(1, 0, 0, 0)", furnished().size(1, 0, 0, 0), 2);
        due("size(-1, 0, 0, 0)", furnished().size(-1, 0, 0, 0), 2);
        says(34, "nominal is not 0 .. 1000000");
        Edge.range("size(1, nominal, 0, 0)", 0, 1000000, 2, EdgesHouse::furnished, (x, v) -> x.size(1, v, 0, 0));
        says(34, "least or greatest is not -10000 .. 10000");
        Edge.range("size(1, 0, both, both)", -10000, 10000, 2, EdgesHouse::furnished, (x, v) -> x.size(1, 0, v, v));
        refuses("size(1, 0, -10001, -10000)", BAD, EdgesHouse::furnished, x -> x.size(1, 0, -10001, -10000));
        refuses("size(1, 0, 10000, 10001)", BAD, EdgesHouse::furnished, x -> x.size(1, 0, 10000, 10001));
        says(34, "greatest below least, or above least + 99");
        Edge.range("size(1, 0, 50, greatest)", 50, 149, 2, EdgesHouse::furnished, (x, v) -> x.size(1, 0, 50, v));
        Edge.range("size(1, 0, least, 50)", -49, 50, 2, EdgesHouse::furnished, (x, v) -> x.size(1, 0, v, 50));
        due("size(1, 0, 9901, 10000)", furnished().size(1, 0, 9901, 10000), 2);
        due("size(1, 0, -10000, -9901)", furnished().size(1, 0, -10000, -9901), 2);
    }

    private static void eightSizes() {
        says(34, "CHAINS have 8 sizes at most");
        refuses("the 9th size()", FULL, EdgesHouse::fullChain, x -> x.size(1, 0, 0, 0));
        says(34, FIRST);
        refuses("a wrong sign as the 9th", BAD, EdgesHouse::fullChain, x -> x.size(0, 0, 0, 0));
        refuses("a wrong nominal as the 9th", BAD, EdgesHouse::fullChain, x -> x.size(1, -1, 0, 0));
        refuses("a wrong deviation as the 9th", BAD, EdgesHouse::fullChain, x -> x.size(1, 0, 0, 100));
    }

    private static void limits() {
        says(35, "NONE: another side");
        Edge.question("limit(side)", 0, 1, NONE, furnished(), WatchHouse::limit);
        Edge.question("limit(side) without sizes", 0, 1, NONE, new WatchHouse(), WatchHouse::limit);
        says(35, "The least (side 0), or greatest (1) sum");
        due("limit(0) without sizes", new WatchHouse().limit(0), 0);
        due("limit(1) without sizes", new WatchHouse().limit(1), 0);
        // 98 .. 103 less 40 .. 49
        due("limit(0)", furnished().limit(0), 49);
        due("limit(1)", furnished().limit(1), 63);
        for (int sign : new int[] {1, -1}) {
            WatchHouse x = new WatchHouse();
            for (int i = 0; i < 8; i++) {
                x.size(sign, 1000000, 9901, 10000);
            }
            due("limit(0) of all that there can be", x.limit(0), sign > 0 ? 8079208 : -8080000);
            due("limit(1) of all that there can be", x.limit(1), sign > 0 ? 8080000 : -8079208);
        }
        due("limit(0) of both signs", fullChain().limit(0), -4 * 99);
        due("limit(1) of both signs", fullChain().limit(1), 4 * 99);
    }

    private static void waysWithoutSizes() {
        says(36, "(without sizes there is one, of sum 0)");
        WatchHouse x = new WatchHouse();
        due("ways(0, 0)", x.ways(0, 0), 1);
        due("ways(-1, 1)", x.ways(-1, 1), 1);
        due("ways(1, 9)", x.ways(1, 9), 0);
        due("ways(-9, -1)", x.ways(-9, -1), 0);
        due("ways of all", x.ways(Edge.LEAST, Edge.MOST), 1);
        due("ways(1, -1)", x.ways(1, -1), 0);
    }

    private static void waysWithin() {
        says(36, "how many of all these have a sum within limits");
        WatchHouse x = furnished();
        long[][] cases = {{49, 49, 1}, {48, 48, 0}, {63, 63, 1}, {64, 64, 0}, {50, 50, 2}, {62, 62, 2}, {49, 63, 60}, {48, 64, 60}, {50, 63, 59},
            {49, 62, 59}, {Edge.LEAST, Edge.MOST, 60}, {Edge.LEAST, 49, 1}, {Edge.LEAST, 48, 0}, {63, Edge.MOST, 1}, {64, Edge.MOST, 0},
            {63, 49, 0}, {Edge.MOST, Edge.LEAST, 0}, {Edge.LEAST, Edge.LEAST, 0}, {Edge.MOST, Edge.MOST, 0}, {56, 55, 0}};
        for (long[] c : cases) {
            due("ways(" + c[0] + ", " + c[1] + ")", x.ways((int) c[0], (int) c[1]), c[2]);
        }
        WatchHouse y = fullChain();
        due("ways of all of 8 sizes with 100 deviations each", y.ways(Edge.LEAST, Edge.MOST), 10000000000000000L);
        due("ways of the least sum", y.ways(-396, -396), 1);
        due("ways of the next sum", y.ways(-395, -395), 8);
        due("ways of the greatest sum", y.ways(396, 396), 1);
        due("ways beyond it", y.ways(397, 10000), 0);
        WatchHouse z = new WatchHouse();
        for (int i = 0; i < 8; i++) {
            z.size(1, 7, 3, 3);
        }
        due("ways of sizes with one deviation each", z.ways(80, 80), 1);
        due("ways beside it", z.ways(Edge.LEAST, 79) + z.ways(81, Edge.MOST), 0);
    }

    // ---- 37, 38

    private static void rates() {
        says(37, "Rate i (1 .. 15) of the trial: what it was.");
        Edge.outside("rate(i, 5)", 1, 15, EdgesHouse::furnished, (x, v) -> x.rate(v, 5));
        due("rate(1, 5)", furnished().rate(1, 5), -17);
        due("rate(15, 5)", furnished().rate(15, 5), 25);
        says(37, "rate is not -1000 .. 1000");
        Edge.range("rate(6, rate)", -1000, 1000, -2, EdgesHouse::furnished, (x, v) -> x.rate(6, v));
        says(37, "it may be BAD, too");
        WatchHouse x = new WatchHouse();
        due("rate(1, -1)", x.rate(1, -1), 0);
        due("rate(1, 7) of one that was -1", x.rate(1, 7), BAD);
        due("it is 7 then", x.rate(1, 0), 7);
        says(37, "A TRIAL has 15 daily rates d1 .. d15, in tenths, 0 at first.");
        WatchHouse y = new WatchHouse();
        for (int k = 0; k <= 7; k++) {
            due("verdict(" + k + ")", y.verdict(k), 0);
        }
        for (int i = 1; i <= 15; i++) {
            due("rate(" + i + ", 0)", y.rate(i, 0), 0);
        }
    }

    private static void verdicts() {
        says(38, "NONE: another k");
        Edge.question("verdict(k)", 0, 7, NONE, furnished(), WatchHouse::verdict);
        Edge.question("verdict(k) at first", 0, 7, NONE, new WatchHouse(), WatchHouse::verdict);
    }

    private static WatchHouse trial(int... pairs) {
        WatchHouse x = new WatchHouse();
        for (int i = 0; i < pairs.length; i += 2) {
            x.rate(pairs[i], pairs[i + 1]);
        }
        return x;
    }

    private static WatchHouse allTen(int each, int first) {
        WatchHouse x = trial(15, each);
        for (int i = 1; i <= 10; i++) {
            x.rate(i, each);
        }
        x.rate(1, first);
        return x;
    }

    private static void number(int k, int number, int failed, WatchHouse x) {
        due("number " + k, x.verdict(k), number);
        due("what is not passed when number " + k + " is " + number, x.verdict(7), failed);
    }

    private static void passed() {
        says(38, "It is passed if these are: -400 .. 600; 100, 50 at most; -120 .. 160; 1000 at most; -180 .. 180; -100 .. 100.");
        number(0, 600, 0, allTen(60, 60));
        number(0, 601, 1, allTen(60, 61));
        number(0, -400, 0, allTen(-40, -40));
        number(0, -401, 1, allTen(-40, -41));
        number(1, 100, 0, trial(1, 10, 2, -10, 3, 10, 4, -10, 5, 10, 6, -10, 7, 10, 8, -10, 9, 10, 10, -10));
        number(1, 101, 2, trial(1, 10, 2, -10, 3, 10, 4, -10, 5, 10, 6, -10, 7, 10, 8, -10, 9, 10, 10, -11));
        number(2, 50, 0, trial(3, 25, 4, -25));
        number(2, 51, 4, trial(3, 26, 4, -25));
        number(2, 51, 4, trial(7, -26, 8, 25));
        number(3, 160, 0, trial(1, 40, 2, 40, 9, -40, 10, -40, 15, 40));
        number(3, 161, 8, trial(1, 41, 2, 40, 9, -40, 10, -40, 15, 40));
        number(3, -120, 0, trial(1, -30, 2, -30, 9, 30, 10, 30, 15, -30));
        number(3, -121, 8, trial(1, -31, 2, -30, 9, 30, 10, 30, 15, -30));
        number(4, 1000, 0, trial(3, 100, 4, 100, 5, -100, 6, -100));
        number(4, 1001, 16, trial(3, 100, 4, 100, 5, -100, 6, -100, 7, -1));
        number(4, 1001, 16, trial(3, 100, 4, 100, 5, -100, 6, -100, 7, 1));
        number(5, 180, 0, trial(13, 100, 11, -80));
        number(5, 181, 32, trial(13, 101, 11, -80));
        number(5, -180, 0, trial(13, -100, 11, 80));
        number(5, -181, 32, trial(13, -100, 11, 81));
        number(6, 100, 0, trial(15, 50));
        number(6, 101, 64, trial(15, 50, 1, -1));
        number(6, -100, 0, trial(15, -50));
        number(6, -101, 64, trial(15, -50, 2, 1));
    }

    private static void farRates() {
        says(38, "7: a bit for each that is not passed (2 to the k)");
        due("none", new WatchHouse().verdict(7), 0);
        due("all", trial(1, 1000, 3, -900, 5, 900, 9, -1000, 7, 1000, 13, 1000, 15, 1000).verdict(7), 127);
        says(38, "Its numbers");
        WatchHouse x = trial(1, 1000, 2, -1000, 3, 1000, 4, -1000, 5, 1000, 6, -1000, 7, 1000, 8, -1000, 9, 1000, 10, -1000, 15, 1000);
        int[] want = {0, 10000, 2000, 0, 10000, 0, 2000};
        for (int k = 0; k < want.length; k++) {
            due("number " + k + " of the farthest rates", x.verdict(k), want[k]);
        }
        due("number 4 of the farthest from the sum", trial(1, 1000).verdict(4), 9000);
        due("number 4 below it", trial(10, -1000).verdict(4), 9000);
        due("rates 12 and 14 are in none", trial(12, 1000, 14, -1000).verdict(7), 0);
        for (int k = 0; k <= 4; k++) {
            due("rates from 11 on are not in number " + k, trial(11, 500, 12, 600, 13, 700, 14, 800, 15, 900).verdict(k), 0);
        }
        due("rate 10 is in number 0", trial(10, 9).verdict(0), 9);
    }

    // ---- 39

    private static void changes() {
        says(39, "no such bench (0 .. 3)");
        Edge.range("change(bench, 9, 5)", 0, 3, 0, EdgesHouse::furnished, (x, v) -> x.change(v, 9, 5));
        says(39, "no such bench (0 .. 3), setting");
        Edge.outside("change(1, setting, 5)", 0, 31, EdgesHouse::furnished, (x, v) -> x.change(1, v, 5));
        due("change(1, 31, 5)", furnished().change(1, 31, 5), 0);
        due("change(1, 0, 5)", furnished().change(1, 0, 5), 20);
        says(39, "v is not -1000000 .. 1000000");
        Edge.range("change(1, 0, v)", -1000000, 1000000, 20, EdgesHouse::furnished, (x, v) -> x.change(1, 0, v));
        says(39, "it may be BAD, too");
        WatchHouse x = new WatchHouse();
        due("change(2, 7, -1)", x.change(2, 7, -1), 0);
        due("change(2, 7, 8) of one that was -1", x.change(2, 7, 8), BAD);
        due("it is 8 then", x.setting(-3, 7), 8);
    }

    // ---- 40 to 42

    private static void mergeNumbers() {
        says(40, "BAD: no such bench");
        Edge.range("merge(bench)", 0, 3, 0, WatchHouse::new, WatchHouse::merge);
        Edge.outside("merge(bench)", 0, 3, EdgesHouse::furnished, WatchHouse::merge);
        says(40, "others are CONFLICTS, and when there are some, nothing else is done");
        refuses("merge(1)", 3, EdgesHouse::furnished, x -> x.merge(1));
        refuses("merge(1) of 32 conflicts", 32, EdgesHouse::allConflicts, x -> x.merge(1));
    }

    private static WatchHouse allConflicts() {
        WatchHouse x = new WatchHouse();
        for (int i = 0; i < 32; i++) {
            x.change(0, i, 1);
            x.change(1, i, -1);
        }
        x.merge(0);
        return x;
    }

    private static void mergeOfNothing() {
        says(40, "Otherwise, if MINE is not NEW then throughout, it is the next version");
        WatchHouse x = new WatchHouse();
        due("merge(0) of nothing", x.merge(0), 0);
        due("version(0)", x.version(0), 0);
        x.change(0, 31, 7);
        due("merge(0) of one change", x.merge(0), 0);
        due("version(0)", x.version(0), 1);
        due("merge(0) again", x.merge(0), 0);
        due("version(0)", x.version(0), 1);
        x.change(1, 31, 7);
        due("merge(1) of the same change", x.merge(1), 0);
        due("version(0)", x.version(0), 1);
        due("version(2)", x.version(2), 1);
        x.change(0, 31, 8);
        x.change(0, 31, 7);
        due("merge(0) of a change that was taken back", x.merge(0), 0);
        due("version(0)", x.version(0), 1);
        says(40, "the copy is taken from the newest then");
        due("merge(3) of a bench that changed nothing", x.merge(3), 0);
        due("version(4)", x.version(4), 1);
        due("setting(-4, 31)", x.setting(-4, 31), 7);
    }

    private static void mergedSettings() {
        says(40, "one that is BASE in MINE becomes NEW; one that is BASE in NEW, or the same in both, stays MINE");
        WatchHouse x = new WatchHouse();
        x.change(0, 0, 5);
        x.change(0, 2, 6);
        x.change(0, 3, 9);
        x.merge(0);
        x.change(1, 1, 7);
        x.change(1, 2, 6);
        x.change(0, 3, 0);
        x.merge(0);
        // 3 was changed and is BASE again in NEW
        x.change(1, 3, 8);
        due("merge(1)", x.merge(1), 0);
        int[] want = {5, 7, 6, 8};
        for (int i = 0; i < want.length; i++) {
            due("setting(-2, " + i + ")", x.setting(-2, i), want[i]);
            due("setting(3, " + i + ")", x.setting(3, i), want[i]);
        }
    }

    /** As many versions as there can be, each with one change by bench 0. */
    private static WatchHouse lastVersion() {
        WatchHouse x = new WatchHouse();
        for (int i = 1; i <= 500; i++) {
            x.change(0, i % 32, i);
            x.merge(0);
        }
        return x;
    }

    private static WatchHouse changedLast(int setting, int v) {
        WatchHouse x = lastVersion();
        x.merge(2);
        x.change(2, setting, v);
        return x;
    }

    private static void versionsEnd() {
        says(40, "it is the next version (number 500 at most)");
        due("version(0)", lastVersion().version(0), 500);
        due("setting(500, 20)", lastVersion().setting(500, 20), 500);
        says(40, "FULL: there are none, and there would be a version 501.");
        refuses("merge(2) of one change", FULL, () -> changedLast(3, 7), x -> x.merge(2));
        refuses("merge(0) of one change", FULL, EdgesHouse::changedByTheFirst, x -> x.merge(0));
        refuses("merge(1) with a conflict", 1, EdgesHouse::conflictAtTheLast, x -> x.merge(1));
        refuses("merge(1) of a conflict that is settled for MINE", FULL, EdgesHouse::settledAtTheLast, x -> x.merge(1));
        WatchHouse x = conflictAtTheLast();
        x.settle(1, 3, 0);
        due("merge(1) of a conflict that is settled for NEW", x.merge(1), 0);
        due("version(2)", x.version(2), 500);
        due("merge(3) of nothing", x.merge(3), 0);
        due("version(4)", x.version(4), 500);
        due("merge(2) of what the newest has", changedLast(20, 500).merge(2), 0);
    }

    private static WatchHouse changedByTheFirst() {
        WatchHouse x = lastVersion();
        x.change(0, 0, 1000000);
        return x;
    }

    private static WatchHouse conflictAtTheLast() {
        WatchHouse x = lastVersion();
        x.change(1, 3, 7);
        return x;
    }

    private static WatchHouse settledAtTheLast() {
        WatchHouse x = conflictAtTheLast();
        x.settle(1, 3, 1);
        return x;
    }

    private static void conflicts() {
        says(41, "BAD: no such bench, setting");
        Edge.question("conflict(bench, 4)", 0, 3, BAD, furnished(), (x, v) -> x.conflict(v, 4));
        Edge.question("conflict(1, setting)", 0, 31, BAD, furnished(), (x, v) -> x.conflict(1, v));
        says(41, "Whether a setting is a conflict of a bench now: 1, else 0.");
        int[] want = {0, 0, 1, 1, 1, 0};
        for (int i = 0; i < want.length; i++) {
            due("conflict(1, " + i + ")", furnished().conflict(1, i), want[i]);
            due("conflict(0, " + i + ")", furnished().conflict(0, i), 0);
        }
        WatchHouse x = furnished();
        x.change(1, 2, 12);
        due("conflict(1, 2) when it is NEW's", x.conflict(1, 2), 0);
        x.change(1, 2, 0);
        due("conflict(1, 2) when it is BASE's", x.conflict(1, 2), 0);
        x.change(1, 2, 22);
        due("conflict(1, 2) when it is neither", x.conflict(1, 2), 1);
        x.change(0, 2, 0);
        x.merge(0);
        due("conflict(1, 2) when NEW is BASE again", x.conflict(1, 2), 0);
        due("conflict(0, 31) at first", new WatchHouse().conflict(0, 31), 0);
    }

    private static void settleNumbers() {
        says(42, "no such bench, setting, side");
        Edge.outside("settle(bench, 2, 1)", 0, 3, EdgesHouse::furnished, (x, v) -> x.settle(v, 2, 1));
        Edge.outside("settle(1, setting, 1)", 0, 31, EdgesHouse::furnished, (x, v) -> x.settle(1, v, 1));
        Edge.range("settle(1, 2, side)", 0, 1, 0, EdgesHouse::furnished, (x, v) -> x.settle(1, 2, v));
        due("settle(1, 31, 1) of 32 conflicts", allConflicts().settle(1, 31, 1), 0);
        says(42, "NO: it is none");
        for (int side = 0; side <= 1; side++) {
            int of = side;
            refuses("settle(1, 5, " + side + ") of one that is the same", NO, EdgesHouse::furnished, x -> x.settle(1, 5, of));
            refuses("settle(1, 0, " + side + ") of one that is settled for MINE", NO, EdgesHouse::furnished, x -> x.settle(1, 0, of));
            refuses("settle(1, 1, " + side + ") of one that is settled for NEW", NO, EdgesHouse::furnished, x -> x.settle(1, 1, of));
            refuses("settle(0, 0, " + side + ") of the bench that merged", NO, EdgesHouse::furnished, x -> x.settle(0, 0, of));
            refuses("settle(0, 0, " + side + ") at first", NO, WatchHouse::new, x -> x.settle(0, 0, of));
        }
        says(42, FIRST);
        refuses("settle(1, 5, 2) of none", BAD, EdgesHouse::furnished, x -> x.settle(1, 5, 2));
        refuses("settle(1, 5, -1) of none", BAD, EdgesHouse::furnished, x -> x.settle(1, 5, -1));
    }

    private static void settledForNew() {
        says(42, "for NEW (the setting in the copy becomes NEW's), or for MINE");
        WatchHouse x = furnished();
        due("settle(1, 2, 0)", x.settle(1, 2, 0), 0);
        due("the copy behind settle(1, 2, 0)", x.setting(-2, 2), 12);
        due("settle(1, 3, 1)", x.settle(1, 3, 1), 0);
        due("the copy behind settle(1, 3, 1)", x.setting(-2, 3), 23);
        due("the copy of another bench", x.setting(-1, 3), 13);
        due("the version", x.setting(1, 3), 13);
        due("version(2)", x.version(2), 0);
        x.change(0, 2, 92);
        x.merge(0);
        due("conflict(1, 2) when NEW is another one again", x.conflict(1, 2), 1);
    }

    private static void settledUntil() {
        says(42, "it is none, and stays MINE, until a merge of the bench is done, or change() is called for it");
        WatchHouse x = furnished();
        due("merge(1), which is not done", x.merge(1), 3);
        due("conflict(1, 0) then", x.conflict(1, 0), 0);
        x.change(0, 0, 90);
        x.merge(0);
        due("conflict(1, 0) when NEW is another one", x.conflict(1, 0), 0);
        x.change(1, 1, 77);
        due("conflict(1, 0) behind a change() of another setting", x.conflict(1, 0), 0);
        x.change(2, 0, 20);
        due("conflict(1, 0) behind a change() of another bench", x.conflict(1, 0), 0);
        due("a change() that is refused", x.change(1, 0, 1000001), BAD);
        due("conflict(1, 0) then", x.conflict(1, 0), 0);
        x.change(1, 0, 20);
        due("conflict(1, 0) behind change() to what it was", x.conflict(1, 0), 1);
        for (int i = 0; i < 5; i++) {
            x.settle(1, i, 1);
        }
        due("merge(1)", x.merge(1), 0);
        due("it stays MINE", x.setting(-2, 0), 20);
        due("also in the version", x.setting(x.version(0), 0), 20);
        x.merge(0);
        x.change(0, 0, 30);
        x.merge(0);
        x.change(1, 0, 31);
        due("conflict(1, 0) anew", x.conflict(1, 0), 1);
    }

    /** Behind a merge that was done, a setting that was settled is like any other that was not changed since. */
    private static void settledNoMore() {
        says(42, "until a merge of the bench is done");
        WatchHouse x = new WatchHouse();
        x.change(0, 0, 1);
        x.merge(0);
        x.change(1, 0, 2);
        due("settle(1, 0, 1)", x.settle(1, 0, 1), 0);
        due("merge(1)", x.merge(1), 0);
        due("setting(2, 0)", x.setting(2, 0), 2);
        x.merge(0);
        x.change(0, 0, 3);
        x.merge(0);
        due("merge(1) takes what bench 0 changed", x.merge(1), 0);
        due("setting(-2, 0)", x.setting(-2, 0), 3);
    }

    // ---- 43 to 45

    private static void settings() {
        says(43, "NONE: no such version, bench, setting.");
        WatchHouse x = furnished();
        Edge.question("setting(version, 0)", -4, 1, NONE, x, (y, v) -> y.setting(v, 0));
        Edge.question("setting(version, 0) at first", -4, 0, NONE, new WatchHouse(), (y, v) -> y.setting(v, 0));
        Edge.question("setting(version, 0) of 500", -4, 500, NONE, lastVersion(), (y, v) -> y.setting(v, 0));
        for (int version = -4; version <= 1; version++) {
            int of = version;
            Edge.question("setting(" + version + ", setting)", 0, 31, NONE, x, (y, v) -> y.setting(of, v));
        }
        says(43, "with version -1 - b of bench b's copy");
        WatchHouse z = new WatchHouse();
        for (int bench = 0; bench < 4; bench++) {
            z.change(bench, 31, 40 + bench);
            z.change(bench, 0, 50 + bench);
        }
        for (int bench = 0; bench < 4; bench++) {
            due("setting(" + (-1 - bench) + ", 31)", z.setting(-1 - bench, 31), 40 + bench);
            due("setting(" + (-1 - bench) + ", 0)", z.setting(-1 - bench, 0), 50 + bench);
        }
        says(43, "There are 32 SETTINGS, 0 at first (VERSION 0).");
        for (int i = 0; i < 32; i++) {
            due("setting(0, " + i + ")", lastVersion().setting(0, i), 0);
        }
    }

    private static void versions() {
        says(44, "BAD: another what");
        Edge.question("version(what)", 0, 4, BAD, furnished(), WatchHouse::version);
        says(44, "Each of 4 benches has a copy, its own changes in it, taken from a version, 0 at first.");
        for (int what = 0; what <= 4; what++) {
            due("version(" + what + ")", new WatchHouse().version(what), 0);
        }
        int[] want = {1, 1, 0, 0, 0};
        for (int what = 0; what <= 4; what++) {
            due("version(" + what + ") behind a merge of bench 0", furnished().version(what), want[what]);
        }
    }

    private static void neverOfNone() {
        says(45, "BAD: another what");
        Edge.question("never(what)", 0, 4, BAD, new WatchHouse(), WatchHouse::never);
        Edge.question("never(what)", 0, 4, BAD, furnished(), WatchHouse::never);
    }

    /** Each of the five where it is nearest to come about. */
    private static void never() {
        says(45, "0 behind go() a link did not hold by speeds that are known");
        WatchHouse x = Due.oneArbor(1);
        x.arbor();
        x.mesh(0, 1, 1, 2, 0);
        x.mesh(0, 1, 1, 2, 1);
        due("go() of one that is locked", x.go(), NO);
        due("never(0)", x.never(0), 0);
        says(45, "1 a train was found that another one within the limits is better than");
        x.search(355, 113, 2);
        x.teeth(0, 4, 200);
        due("never(1) when the limits have changed", x.never(1), 0);
        says(45, "2 a calendar of kind 3 that was never corrected was WRONG");
        WatchHouse y = Due.oneArbor(1);
        y.calendar(0, 3, 31, 12, 9999);
        y.calendar(0, 3, 28, 2, 1900);
        y.calendar(0, 3, 15, 6, 2001);
        y.strike(0, 0);
        y.go();
        y.correct(2, 0, 14);
        Edge.ticked(y, 6);
        due("shows(0, 7)", y.shows(0, 7), 0);
        due("shows(1, 7)", y.shows(1, 7), 0);
        due("shows(2, 7) of one that was corrected", y.shows(2, 7), 3);
        due("never(2)", y.never(2), 0);
        says(45, "3 a rack struck otherwise than the hour");
        y.correct(3, 1, 7);
        due("trip(3)", y.trip(3), y.shows(3, 0));
        due("never(3)", y.never(3), 0);
        says(45, "4 a merge that was done without settling lost a change of one side alone");
        y.change(0, 1, 2);
        y.change(1, 2, 3);
        due("merge(0)", y.merge(0), 0);
        due("merge(1)", y.merge(1), 0);
        due("the one side", y.setting(2, 1), 2);
        due("the other side", y.setting(2, 2), 3);
        due("never(4)", y.never(4), 0);
    }

    static void all() {
        teeth();
        firstLimits();
        searchNumbers();
        mostRows();
        searchRefused();
        equallyGood();
        trains();
        errors();
        chains();
        sizes();
        eightSizes();
        limits();
        waysWithoutSizes();
        waysWithin();
        rates();
        verdicts();
        passed();
        farRates();
        changes();
        mergeNumbers();
        mergeOfNothing();
        mergedSettings();
        versionsEnd();
        conflicts();
        settleNumbers();
        settledForNew();
        settledUntil();
        settledNoMore();
        settings();
        versions();
        neverOfNone();
        never();
    }
}

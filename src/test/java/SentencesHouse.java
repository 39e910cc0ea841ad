/** What parts 4 to 8 and promises 29 to 45 say beside their boundaries; the answers are worked out by hand. */
final class SentencesHouse {
    private static final int BAD = Edge.BAD, NO = Edge.NO, FULL = Edge.FULL;

    private SentencesHouse() {
    }

    private static void says(int promise, String sentence) {
        Edge.says(promise, sentence);
    }

    private static void due(String call, long got, long want) {
        Edge.due(call, got, want);
    }

    // ---- trains

    /** Wheels, then pinions; 0 where there is none such. */
    private static void trainIs(WatchHouse x, int... want) {
        for (int k = 0; k < 3; k++) {
            due("train(" + k + ", 0)", x.train(k, 0), want[k]);
            due("train(" + k + ", 1)", x.train(k, 1), want[k + 3]);
        }
    }

    private static void trains() {
        says(30, "TRAINS. For a ratio, and s stages at most (1 .. 3), with wheels and pinions within limits (20 .. 40, 6 .. 12 at "
            + "first): a train has 1 to s wheels and as many pinions, each row not falling.");
        WatchHouse x = new WatchHouse();
        due("search(10, 1, 1)", x.search(10, 1, 1), 1);
        trainIs(x, 40, 0, 0, 6, 0, 0);
        due("search(10, 1, 2)", x.search(10, 1, 2), 2);
        trainIs(x, 20, 21, 0, 6, 7, 0);
        due("search(10, 1, 3)", x.search(10, 1, 3), 2);
        trainIs(x, 20, 21, 0, 6, 7, 0);
        due("search(100, 1, 3)", x.search(100, 1, 3), 3);
        trainIs(x, 20, 27, 40, 6, 6, 6);
        due("search(1, 1, 3)", x.search(1, 1, 3), 1);
        trainIs(x, 20, 0, 0, 12, 0, 0);
    }

    private static void teeth() {
        says(29, "The limits of wheels (kind 0) or pinions (1): 0.");
        WatchHouse x = new WatchHouse();
        due("teeth(0, 30, 32)", x.teeth(0, 30, 32), 0);
        due("search(1, 1, 1)", x.search(1, 1, 1), 1);
        trainIs(x, 30, 0, 0, 12, 0, 0);
        due("teeth(1, 7, 8)", x.teeth(1, 7, 8), 0);
        due("search(1, 1, 1)", x.search(1, 1, 1), 1);
        trainIs(x, 30, 0, 0, 8, 0, 0);
        due("search(1000, 1, 1)", x.search(1000, 1, 1), 1);
        trainIs(x, 32, 0, 0, 7, 0, 0);
    }

    private static void search() {
        says(30, "The best TRAIN for above / below is found: how many stages it has.");
        WatchHouse x = new WatchHouse();
        due("search(22, 7, 1)", x.search(22, 7, 1), 1);
        trainIs(x, 22, 0, 0, 7, 0, 0);
        due("search(22, 1, 2)", x.search(22, 1, 2), 2);
        says(31, "Wheel (side 0) or pinion (1) k of the train that was found; 0: none such.");
        trainIs(x, 22, 36, 0, 6, 6, 0);
        says(32, "The ERROR of the train that was found, in lowest terms: 0 above, 1 below; 0 before any");
        due("error(0)", x.error(0), 0);
        due("error(1)", x.error(1), 1);
        x.search(10, 1, 1);
        due("error(0) of 40 / 6 for 10", x.error(0), 10);
        due("error(1) of 40 / 6 for 10", x.error(1), 3);
        due("error(0) before any", new WatchHouse().error(0), 0);
        due("error(1) before any", new WatchHouse().error(1), 0);
    }

    // ---- chains

    private static WatchHouse chain() {
        WatchHouse x = new WatchHouse();
        due("size(1, 100, -1, 1)", x.size(1, 100, -1, 1), 0);
        due("size(-1, 40, 0, 2)", x.size(-1, 40, 0, 2), 1);
        return x;
    }

    private static void sizes() {
        says(34, "A size of the chain: its number.");
        WatchHouse x = chain();
        says(35, "CHAINS have 8 sizes at most, each with a sign, a nominal, a least and a greatest deviation. The sum: of sign * "
            + "(nominal + deviation).");
        due("limit(0)", x.limit(0), 57);
        due("limit(1)", x.limit(1), 61);
        says(36, "WAYS: each size takes each of its deviations; how many of all these have a sum within limits");
        int[] ways = {0, 1, 2, 3, 2, 1, 0};
        for (int i = 0; i < ways.length; i++) {
            due("ways of sum " + (56 + i), x.ways(56 + i, 56 + i), ways[i]);
        }
        says(36, "WAYS with a sum from low to high.");
        due("ways(58, 60)", x.ways(58, 60), 7);
        due("ways(0, 1000)", x.ways(0, 1000), 9);
        due("ways(60, 58)", x.ways(60, 58), 0);
        says(34, "or above least + 99. FULL.");
        for (int i = 2; i < 8; i++) {
            x.size(1, 0, 0, 0);
        }
        due("size(), the ninth", x.size(1, 0, 0, 0), FULL);
        due("size() of a wrong sign then", x.size(0, 0, 0, 0), BAD);
        due("chain()", x.chain(), 8);
    }

    // ---- the trial

    private static void trial() {
        says(38, "Its numbers: 0 SUM = d1 + .. + d10; 1 |d1 - d2| + |d3 - d4| + .. + |d9 - d10|; 2 the greatest of these five; "
            + "3 d1 + d2 - d9 - d10; 4 the greatest of |10 * di - SUM|, i to 10; 5 d13 - d11; 6 2 * d15 - d1 - d2.");
        WatchHouse x = new WatchHouse();
        int[] rates = {10, -20, 30, 5, -7, 8, 50, -40, 2, 9, 11, 12, -13, 14, 15};
        for (int i = 0; i < rates.length; i++) {
            due("rate(" + (i + 1) + ", " + rates[i] + ")", x.rate(i + 1, rates[i]), 0);
        }
        int[] numbers = {47, 167, 90, -21, 453, -24, 40};
        for (int k = 0; k < numbers.length; k++) {
            due("verdict(" + k + ")", x.verdict(k), numbers[k]);
        }
        says(38, "Number k (0 .. 6) of the trial; 7: a bit for each that is not passed (2 to the k).");
        due("verdict(7)", x.verdict(7), 2 + 4);
        says(37, "Rate i (1 .. 15) of the trial: what it was. BAD: no such, or rate is not -1000 .. 1000; it may be BAD, too.");
        due("rate(2, -1)", x.rate(2, -1), -20);
        due("rate(2, 0)", x.rate(2, 0), -1);
        due("rate(16, 0)", x.rate(16, 0), BAD);
    }

    // ---- benches

    private static void merges() {
        says(40, "A MERGE of a bench: with the settings of the version that it was taken from (BASE), its own (MINE) and those of the "
            + "newest (NEW)");
        WatchHouse x = new WatchHouse();
        x.change(0, 0, 5);
        x.change(0, 2, 6);
        x.change(0, 4, 7);
        due("merge(0)", x.merge(0), 0);
        x.change(1, 1, 8);
        x.change(1, 2, 6);
        x.change(1, 4, 9);
        says(40, "A MERGE: how many CONFLICTS; 0: it was done.");
        due("merge(1)", x.merge(1), 1);
        due("version(0) of a merge that was not done", x.version(0), 1);
        due("BASE in MINE, not yet NEW", x.setting(-2, 0), 0);
        due("conflict(1, 4)", x.conflict(1, 4), 1);
        due("conflict(1, 2), the same in both", x.conflict(1, 2), 0);
        x.change(1, 4, 0);
        due("merge(1) when setting 4 is BASE again", x.merge(1), 0);
        int[] merged = {5, 8, 6, 0, 7};
        for (int i = 0; i < merged.length; i++) {
            due("setting(2, " + i + ")", x.setting(2, i), merged[i]);
            due("setting(-2, " + i + ")", x.setting(-2, i), merged[i]);
        }
    }

    private static void change() {
        says(39, "A setting of a bench's copy becomes v: what it was. BAD: no such bench (0 .. 3), setting, or v is not "
            + "-1000000 .. 1000000; it may be BAD, too.");
        WatchHouse x = new WatchHouse();
        due("change(2, 31, 44)", x.change(2, 31, 44), 0);
        due("change(2, 31, -1)", x.change(2, 31, -1), 44);
        due("change(2, 31, 3)", x.change(2, 31, 3), -1);
        due("change(2, 32, 3)", x.change(2, 32, 3), BAD);
        due("the copy", x.setting(-3, 31), 3);
        due("another copy", x.setting(-2, 31), 0);
        due("the version", x.setting(0, 31), 0);
    }

    private static void settle() {
        says(42, "A conflict can be SETTLED: for NEW (the setting in the copy becomes NEW's), or for MINE: it is none, and stays MINE");
        WatchHouse x = new WatchHouse();
        for (int i = 0; i < 2; i++) {
            x.change(0, i, 5);
            x.change(1, i, 6);
        }
        x.merge(0);
        due("merge(1)", x.merge(1), 2);
        says(42, "A conflict is settled, side 0 for NEW, 1 for MINE: 0. BAD: no such bench, setting, side. NO: it is none.");
        due("settle(1, 0, 0)", x.settle(1, 0, 0), 0);
        due("settle(1, 1, 1)", x.settle(1, 1, 1), 0);
        due("settle(1, 1, 1) again", x.settle(1, 1, 1), NO);
        due("settle(1, 1, 2)", x.settle(1, 1, 2), BAD);
        due("the copy, for NEW", x.setting(-2, 0), 5);
        due("the copy, for MINE", x.setting(-2, 1), 6);
        due("merge(1)", x.merge(1), 0);
        due("setting(2, 0)", x.setting(2, 0), 5);
        due("setting(2, 1)", x.setting(2, 1), 6);
    }

    private static void versions() {
        says(43, "A setting of a version; with version -1 - b of bench b's copy.");
        WatchHouse x = new WatchHouse();
        for (int v = 1; v <= 3; v++) {
            x.change(3, 7, 10 * v);
            x.merge(3);
        }
        x.change(3, 7, 99);
        for (int v = 0; v <= 3; v++) {
            due("setting(" + v + ", 7)", x.setting(v, 7), 10 * v);
        }
        due("setting(-4, 7)", x.setting(-4, 7), 99);
        says(44, "0 the newest version; 1 .. 4 that which bench 0 .. 3 was taken from.");
        x.merge(1);
        int[] told = {3, 0, 3, 0, 3};
        for (int what = 0; what < told.length; what++) {
            due("version(" + what + ")", x.version(what), told[what]);
        }
    }

    // ---- the book, and what never is

    private static void book() {
        says(21, "THE BOOK has a row for each call marked (B) that was carried out since go(), 2000 at most");
        WatchHouse x = Edge.arbors(1);
        x.escape(0, 1);
        x.barrel(0);
        x.strike(0, 0);
        x.chronograph(0);
        x.go();
        x.run(1);
        x.shock(1);
        x.wind(1);
        x.press(0, 0);
        x.correct(0, 0, 3);
        x.trip(0);
        due("rows of six calls", x.count(4), 6);
        x.run(-1);
        x.press(0, 1);
        x.go();
        x.state(0);
        x.change(0, 0, 1);
        due("rows behind calls that were refused, or have none", x.count(4), 6);
        due("back(5)", x.back(5), 0);
        due("rows behind back(5)", x.count(4), 5);
    }

    private static void never() {
        says(45, "How often: 0 behind go() a link did not hold by speeds that are known; 1 a train was found that another one within "
            + "the limits is better than; 2 a calendar of kind 3 that was never corrected was WRONG; 3 a rack struck otherwise than "
            + "the hour; 4 a merge that was done without settling lost a change of one side alone.");
        WatchHouse x = Edge.arbors(2);
        x.mesh(0, 3, 1, 5, 0);
        x.escape(0, 1);
        x.torque(0, 1);
        x.calendar(0, 3, 28, 2, 2100);
        x.strike(0, 0);
        x.go();
        Edge.beat(x, 10);
        x.search(50, 7, 2);
        x.change(0, 0, 1);
        x.merge(0);
        x.change(1, 1, 2);
        x.merge(1);
        for (int what = 0; what <= 4; what++) {
            due("never(" + what + ")", x.never(what), 0);
        }
    }

    static void all() {
        trains();
        teeth();
        search();
        sizes();
        trial();
        merges();
        change();
        settle();
        versions();
        book();
        never();
    }
}

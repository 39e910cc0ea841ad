/** Promises 29 to 45: trains, chains, trials, benches and what never is. */
public final class HouseTest {
    private static final int BAD = WatchHouse.BAD, NO = WatchHouse.NO, FULL = WatchHouse.FULL, NONE = WatchHouse.NONE;

    private static void due(int promise, String call, long got, long want) {
        Due.due(promise, call, got, want);
    }

    private static void teeth() {
        WatchHouse x = new WatchHouse();
        due(29, "teeth(-1, 20, 40)", x.teeth(-1, 20, 40), BAD);
        due(29, "teeth(2, 20, 40)", x.teeth(2, 20, 40), BAD);
        due(29, "teeth(0, 3, 40)", x.teeth(0, 3, 40), BAD);
        due(29, "teeth(0, 20, 201)", x.teeth(0, 20, 201), BAD);
        due(29, "teeth(0, 21, 20)", x.teeth(0, 21, 20), BAD);
        due(29, "the limits at first", x.search(100, 1, 1), 1);
        due(29, "wheels to 40", x.train(0, 0), 40);
        due(29, "pinions from 6", x.train(0, 1), 6);
        x.search(1, 100, 1);
        due(29, "wheels from 20", x.train(0, 0), 20);
        due(29, "pinions to 12", x.train(0, 1), 12);
        due(29, "teeth(0, 4, 4)", x.teeth(0, 4, 4), 0);
        due(29, "teeth(1, 200, 200)", x.teeth(1, 200, 200), 0);
        due(29, "the train stays", x.train(0, 0), 20);
        x.search(1, 1, 1);
        due(29, "wheels of 4", x.train(0, 0), 4);
        due(29, "pinions of 200", x.train(0, 1), 200);
        due(29, "teeth(0, 4, 200)", x.teeth(0, 4, 200), 0);
        x.search(1, 1, 1);
        due(29, "wheels to 200", x.train(0, 0), 200);
    }

    private static void trainIs(WatchHouse x, int[] wheels, int[] pinions, long above, long below) {
        for (int k = 0; k < 3; k++) {
            due(31, "train(" + k + ", 0)", x.train(k, 0), k < wheels.length ? wheels[k] : 0);
            due(31, "train(" + k + ", 1)", x.train(k, 1), k < pinions.length ? pinions[k] : 0);
        }
        due(32, "error(0)", x.error(0), above);
        due(32, "error(1)", x.error(1), below);
    }

    private static int[] row(int... of) {
        return of;
    }

    private static void searches() {
        WatchHouse x = new WatchHouse();
        trainIs(x, row(), row(), 0, 0);
        int[][] bad = {{0, 1, 1}, {100001, 1, 1}, {1, 0, 1}, {1, 100001, 1}, {1, 1, 0}, {1, 1, 4}, {-1, 1, 1}};
        for (int[] b : bad) {
            due(30, "search of bad numbers", x.search(b[0], b[1], b[2]), BAD);
        }
        due(30, "search(4, 1, 1)", x.search(4, 1, 1), 1);
        trainIs(x, row(24), row(6), 0, 1);
        due(30, "search(4, 1, 3) has the fewest stages", x.search(4, 1, 3), 1);
        trainIs(x, row(24), row(6), 0, 1);
        due(30, "search(12, 1, 3)", x.search(12, 1, 3), 2);
        trainIs(x, row(20, 36), row(6, 10), 0, 1);
        due(30, "search(60, 1, 3)", x.search(60, 1, 3), 3);
        trainIs(x, row(20, 21, 36), row(6, 6, 7), 0, 1);
        due(30, "search(100000, 1, 2)", x.search(100000, 1, 2), 2);
        trainIs(x, row(40, 40), row(6, 6), 899600, 9);
        due(31, "train(-1, 0)", x.train(-1, 0), 0);
        due(31, "train(3, 0)", x.train(3, 0), 0);
        due(31, "train(0, -1)", x.train(0, -1), 0);
        due(31, "train(0, 2)", x.train(0, 2), 0);
        due(32, "error(-1)", x.error(-1), NONE);
        due(32, "error(2)", x.error(2), NONE);
    }

    private static void equalErrors() {
        WatchHouse x = new WatchHouse();
        // as far from 21 / 6 as from 22 / 6: the lesser wheel
        x.teeth(0, 20, 24);
        x.teeth(1, 6, 6);
        due(30, "search(43, 12, 1)", x.search(43, 12, 1), 1);
        trainIs(x, row(21), row(6), 1, 12);
        // as far from 60 / 30 as from 60 / 31: the lesser pinion
        x.teeth(0, 60, 60);
        x.teeth(1, 30, 31);
        due(30, "search(61, 31, 1)", x.search(61, 31, 1), 1);
        trainIs(x, row(60), row(30), 1, 31);
        // 6 * 12 is 8 * 9: the row that is less in its first
        x.teeth(0, 20, 20);
        x.teeth(1, 6, 12);
        due(30, "search(50, 9, 2)", x.search(50, 9, 2), 2);
        trainIs(x, row(20, 20), row(6, 12), 0, 1);
    }

    private static void fullSearch() {
        WatchHouse x = new WatchHouse();
        x.search(4, 1, 1);
        // 197 * 198 / 2 rows of wheels times 10 rows of pinions
        x.teeth(0, 4, 200);
        x.teeth(1, 6, 9);
        due(30, "195030 rows", x.search(1, 1, 2), 1);
        trainIs(x, row(6), row(6), 0, 1);
        x.teeth(1, 6, 10);
        due(30, "292545 rows", x.search(4, 1, 2), FULL);
        trainIs(x, row(6), row(6), 0, 1);
        due(30, "985 rows", x.search(4, 1, 1), 1);
        due(30, "bad numbers come first", x.search(0, 1, 3), BAD);
        x.teeth(1, 4, 200);
        due(30, "38809 rows", x.search(199, 197, 1), 1);
        trainIs(x, row(199), row(197), 0, 1);
        due(30, "so many rows that an int is too small", x.search(1, 1, 3), FULL);
        x.teeth(1, 200, 200);
        x.teeth(0, 96, 200);
        due(30, "198485 rows", x.search(1, 100000, 3), 3);
        trainIs(x, row(96, 96, 96), row(200, 200, 200), 55291, 500000);
        x.teeth(0, 95, 200);
        due(30, "204156 rows", x.search(1, 100000, 3), FULL);
        due(30, "the one before stays", x.train(2, 0), 96);
    }

    private static void chains() {
        WatchHouse x = new WatchHouse();
        int[][] bad = {{0, 0, 0, 0}, {2, 0, 0, 0}, {-2, 0, 0, 0}, {1, -1, 0, 0}, {1, 1000001, 0, 0}, {1, 0, -10001, -10000}, {1, 0, 10000, 10001},
            {1, 0, 1, 0}, {1, 0, 0, 100}, {1, 0, 10001, 10001}, {1, 0, -10001, -10001}};
        for (int[] b : bad) {
            due(34, "size of bad numbers", x.size(b[0], b[1], b[2], b[3]), BAD);
        }
        due(36, "ways(0, 0) without sizes", x.ways(0, 0), 1);
        due(36, "ways(1, 5) without sizes", x.ways(1, 5), 0);
        due(34, "size(1, 100, -1, 2)", x.size(1, 100, -1, 2), 0);
        due(34, "size(-1, 30, 5, 7)", x.size(-1, 30, 5, 7), 1);
        due(35, "limit(0)", x.limit(0), 99 - 37);
        due(35, "limit(1)", x.limit(1), 102 - 35);
        due(35, "limit(-1)", x.limit(-1), NONE);
        due(35, "limit(2)", x.limit(2), NONE);
        // 62 .. 67: 1 2 3 3 2 1
        long[] ways = {1, 2, 3, 3, 2, 1};
        for (int i = 0; i < ways.length; i++) {
            due(36, "ways to " + (62 + i), x.ways(62 + i, 62 + i), ways[i]);
        }
        due(36, "ways of all", x.ways(Integer.MIN_VALUE, Integer.MAX_VALUE), 12);
        due(36, "ways(64, 70)", x.ways(64, 70), 9);
        due(36, "ways(0, 61)", x.ways(0, 61), 0);
        due(36, "ways(68, 99)", x.ways(68, 99), 0);
        due(36, "ways(67, 62)", x.ways(67, 62), 0);
        due(33, "chain()", x.chain(), 2);
        due(33, "chain()", x.chain(), 0);
        due(35, "limit(1)", x.limit(1), 0);
        due(36, "ways(0, 0) anew", x.ways(0, 0), 1);
        longChain(x);
    }

    private static void longChain(WatchHouse x) {
        for (int i = 0; i < 8; i++) {
            due(34, "size()", x.size(-1, 1000000, 9901, 10000), i);
        }
        due(34, "size() the 9th", x.size(1, 0, 0, 0), FULL);
        due(34, "a bad 9th", x.size(0, 0, 0, 0), BAD);
        due(35, "limit(0)", x.limit(0), -8080000);
        due(35, "limit(1)", x.limit(1), -8079208);
        due(36, "ways of all", x.ways(Integer.MIN_VALUE, Integer.MAX_VALUE), 10000000000000000L);
        due(36, "ways of the least two", x.ways(-8080000, -8079999), 9);
        due(36, "ways of the greatest two", x.ways(-8079209, -8079208), 9);
        due(36, "ways of one half", x.ways(-8080000, -8079605), x.ways(-8079603, -8079208));
        due(33, "chain()", x.chain(), 8);
    }

    private static void trials() {
        WatchHouse x = new WatchHouse();
        due(37, "rate(0, 1)", x.rate(0, 1), BAD);
        due(37, "rate(16, 1)", x.rate(16, 1), BAD);
        due(37, "rate(1, -1001)", x.rate(1, -1001), BAD);
        due(37, "rate(1, 1001)", x.rate(1, 1001), BAD);
        due(37, "rate(1, -1)", x.rate(1, -1), 0);
        due(37, "rate(1, 1000): it was -1", x.rate(1, 1000), -1);
        due(37, "rate(15, -1000)", x.rate(15, -1000), 0);
        due(37, "rate(15, 0)", x.rate(15, 0), -1000);
        int[] rates = {3, -4, 10, 15, -20, 7, 0, 9, 2, -6, 40, 500, 25, 600, 8};
        for (int i = 0; i < 15; i++) {
            x.rate(i + 1, rates[i]);
        }
        // the pairs: 7, 5, 27, 9, 8; the sum: 16
        int[] numbers = {16, 56, 27, 3, 216, -15, 17, 0};
        for (int k = 0; k < numbers.length; k++) {
            due(38, "verdict(" + k + ")", x.verdict(k), numbers[k]);
        }
        due(38, "verdict(-1)", x.verdict(-1), NONE);
        due(38, "verdict(8)", x.verdict(8), NONE);
        verdictEdges();
    }

    private static WatchHouse trial(int... pairs) {
        WatchHouse x = new WatchHouse();
        for (int i = 0; i < pairs.length; i += 2) {
            x.rate(pairs[i], pairs[i + 1]);
        }
        return x;
    }

    private static WatchHouse allTen(int each, int first) {
        WatchHouse x = trial(15, each);
        for (int i = 1; i <= 10; i++) {
            x.rate(i, each);
        }
        x.rate(1, first);
        return x;
    }

    private static void failed(String what, WatchHouse x, int bits) {
        due(38, what, x.verdict(7), bits);
    }

    private static void verdictEdges() {
        failed("sum 600", allTen(60, 60), 0);
        failed("sum 601", allTen(60, 61), 1);
        failed("sum -400", allTen(-40, -40), 0);
        failed("sum -401", allTen(-40, -41), 1);
        failed("pairs of 100", trial(1, 10, 2, -10, 3, 10, 4, -10, 5, 10, 6, -10, 7, 10, 8, -10, 9, 10, 10, -10), 0);
        failed("pairs of 101", trial(1, 10, 2, -10, 3, 10, 4, -10, 5, 10, 6, -10, 7, 10, 8, -10, 9, 10, 10, -11), 2);
        failed("a pair of 50", trial(3, 25, 4, -25), 0);
        failed("a pair of 51", trial(3, 26, 4, -25), 4);
        failed("160", trial(1, 40, 2, 40, 9, -40, 10, -40, 15, 40), 0);
        failed("161", trial(1, 41, 2, 40, 9, -40, 10, -40, 15, 40), 8);
        failed("-120", trial(1, -30, 2, -30, 9, 30, 10, 30, 15, -30), 0);
        failed("-121", trial(1, -31, 2, -30, 9, 30, 10, 30, 15, -30), 8);
        // 10 * 100 - 0 and 10 * -100 - 0, the pairs being 0 apart from each other
        failed("1000", trial(3, 100, 4, 100, 5, -100, 6, -100), 0);
        failed("1001", trial(3, 100, 4, 100, 5, -100, 6, -100, 7, -1), 16);
        failed("180", trial(13, 100, 11, -80), 0);
        failed("181", trial(13, 100, 11, -81), 32);
        failed("-180", trial(13, -100, 11, 80), 0);
        failed("-181", trial(13, -101, 11, 80), 32);
        failed("100", trial(15, 50), 0);
        failed("101", trial(15, 50, 1, -1), 64);
        failed("-100", trial(15, -50), 0);
        failed("-101", trial(15, -50, 2, 1), 64);
        failed("12 and 14 do not count", trial(12, 1000, 14, -1000), 0);
        due(38, "verdict(4) below the mean", trial(1, -90).verdict(4), 810);
        failed("all of them", trial(1, 1000, 3, -900, 5, 900, 9, -1000, 7, 1000, 13, 1000, 15, 1000), 127);
    }

    private static void changes() {
        WatchHouse x = new WatchHouse();
        int[][] bad = {{-1, 0, 0}, {4, 0, 0}, {0, -1, 0}, {0, 32, 0}, {0, 0, -1000001}, {0, 0, 1000001}};
        for (int[] b : bad) {
            due(39, "change of bad numbers", x.change(b[0], b[1], b[2]), BAD);
        }
        due(39, "change(0, 0, 1000000)", x.change(0, 0, 1000000), 0);
        due(39, "change(0, 0, -1)", x.change(0, 0, -1), 1000000);
        due(39, "change(0, 0, -1000000): it was -1", x.change(0, 0, -1000000), -1);
        due(39, "change(3, 31, 5)", x.change(3, 31, 5), 0);
        due(43, "setting(-1, 0)", x.setting(-1, 0), -1000000);
        due(43, "setting(-4, 31)", x.setting(-4, 31), 5);
        due(43, "setting(-4, 0)", x.setting(-4, 0), 0);
        due(43, "setting(0, 0)", x.setting(0, 0), 0);
        due(43, "setting(1, 0)", x.setting(1, 0), NONE);
        due(43, "setting(-5, 0)", x.setting(-5, 0), NONE);
        due(43, "setting(0, -1)", x.setting(0, -1), NONE);
        due(43, "setting(0, 32)", x.setting(0, 32), NONE);
        due(43, "setting(-1, 32)", x.setting(-1, 32), NONE);
    }

    private static void versionsAre(WatchHouse x, int... want) {
        for (int what = 0; what < want.length; what++) {
            due(44, "version(" + what + ")", x.version(what), want[what]);
        }
    }

    private static void merges() {
        WatchHouse x = new WatchHouse();
        due(40, "merge(-1)", x.merge(-1), BAD);
        due(40, "merge(4)", x.merge(4), BAD);
        due(44, "version(-1)", x.version(-1), BAD);
        due(44, "version(5)", x.version(5), BAD);
        due(40, "merge(0) of nothing", x.merge(0), 0);
        versionsAre(x, 0, 0, 0, 0, 0);
        x.change(0, 1, 11);
        x.change(0, 2, 12);
        x.change(0, 0, 10);
        x.change(0, 31, 41);
        due(40, "merge(0)", x.merge(0), 0);
        versionsAre(x, 1, 1, 0, 0, 0);
        due(43, "setting(1, 1)", x.setting(1, 1), 11);
        due(43, "setting(0, 1)", x.setting(0, 1), 0);
        x.change(1, 2, 12);
        x.change(1, 3, 13);
        due(41, "the same in both is none", x.conflict(1, 2), 0);
        due(40, "merge(1)", x.merge(1), 0);
        versionsAre(x, 2, 1, 2, 0, 0);
        for (int i : row(0, 1, 2, 3, 31)) {
            due(43, "setting(2, i)", x.setting(2, i), 10 + i);
            due(43, "setting(-2, i)", x.setting(-2, i), 10 + i);
        }
        due(43, "bench 0 has not got it yet", x.setting(-1, 3), 0);
        due(40, "merge(2) takes the newest, and is none", x.merge(2), 0);
        versionsAre(x, 2, 1, 2, 2, 0);
        due(43, "setting(-3, 3)", x.setting(-3, 3), 13);
        // a copy that comes to be the newest by its own changes is none either
        x.change(0, 3, 13);
        due(40, "merge(0)", x.merge(0), 0);
        versionsAre(x, 2, 2, 2, 2, 0);
        // one that is changed and changed back is no change
        x.change(0, 3, 99);
        x.merge(0);
        x.change(1, 3, 50);
        x.change(1, 3, 13);
        due(40, "merge(1)", x.merge(1), 0);
        due(43, "setting(-2, 3)", x.setting(-2, 3), 99);
        versionsAre(x, 3, 3, 3, 2, 0);
        due(40, "merge(3)", x.merge(3), 0);
        due(43, "setting(-4, 31)", x.setting(-4, 31), 41);
        versionsAre(x, 3, 3, 3, 2, 3);
    }

    private static void conflicts() {
        WatchHouse x = new WatchHouse();
        int[][] bad = {{-1, 0}, {4, 0}, {0, -1}, {0, 32}};
        for (int[] b : bad) {
            due(41, "conflict of bad numbers", x.conflict(b[0], b[1]), BAD);
            due(42, "settle of bad numbers", x.settle(b[0], b[1], 0), BAD);
        }
        due(42, "settle(0, 0, -1)", x.settle(0, 0, -1), BAD);
        due(42, "settle(0, 0, 2)", x.settle(0, 0, 2), BAD);
        due(42, "settle(0, 0, 0) of none", x.settle(0, 0, 0), NO);
        for (int i = 0; i < 4; i++) {
            x.change(0, i, 10 + i);
            x.change(1, i, 20 + i);
        }
        x.change(0, 5, 15);
        x.change(1, 6, 26);
        x.merge(0);
        due(41, "conflict(1, 0)", x.conflict(1, 0), 1);
        due(41, "conflict(0, 0)", x.conflict(0, 0), 0);
        due(41, "conflict(1, 5): of one side alone", x.conflict(1, 5), 0);
        due(41, "conflict(1, 6): of the other side alone", x.conflict(1, 6), 0);
        due(40, "merge(1)", x.merge(1), 4);
        versionsAre(x, 1, 1, 0, 0, 0);
        due(40, "nothing else is done", x.setting(-2, 5), 0);
        due(42, "settle(1, 0, 0)", x.settle(1, 0, 0), 0);
        due(42, "it is NEW's", x.setting(-2, 0), 10);
        due(42, "settle(1, 0, 0) again", x.settle(1, 0, 0), NO);
        due(42, "settle(1, 1, 1)", x.settle(1, 1, 1), 0);
        due(42, "it stays MINE", x.setting(-2, 1), 21);
        due(41, "it is none", x.conflict(1, 1), 0);
        due(42, "settle(1, 1, 1) again", x.settle(1, 1, 1), NO);
        due(42, "settle(1, 2, 1)", x.settle(1, 2, 1), 0);
        due(40, "merge(1)", x.merge(1), 1);
        due(41, "it is none behind a merge that was not done", x.conflict(1, 2), 0);
        x.change(1, 2, 22);
        due(41, "change() ends it, for the same number, too", x.conflict(1, 2), 1);
        due(41, "but for no other", x.conflict(1, 1), 0);
        due(39, "a change that is BAD", x.change(1, 1, 1000001), BAD);
        due(41, "ends nothing", x.conflict(1, 1), 0);
        x.settle(1, 2, 1);
        x.change(0, 1, 31);
        x.merge(0);
        due(41, "it stays settled when there is another version", x.conflict(1, 1), 0);
        x.settle(1, 3, 0);
        due(40, "merge(1)", x.merge(1), 0);
        int[] want = {10, 21, 22, 13, 0, 15, 26};
        for (int i = 0; i < want.length; i++) {
            due(40, "setting(3, " + i + ")", x.setting(3, i), want[i]);
            due(40, "setting(-2, " + i + ")", x.setting(-2, i), want[i]);
        }
        versionsAre(x, 3, 2, 3, 0, 0);
        settledNoMore(x);
    }

    /** Behind a merge that was done, a setting is settled no more. */
    private static void settledNoMore(WatchHouse x) {
        x.merge(0);
        x.change(0, 1, 41);
        x.merge(0);
        x.change(1, 1, 51);
        due(41, "conflict(1, 1) anew", x.conflict(1, 1), 1);
        x.settle(1, 1, 1);
        x.merge(1);
        x.merge(0);
        x.change(0, 1, 61);
        x.merge(0);
        // MINE that was not changed by change() since the merge is BASE, so it becomes NEW
        due(40, "merge(1)", x.merge(1), 0);
        due(43, "setting(-2, 1)", x.setting(-2, 1), 61);
    }

    private static void lastVersion() {
        WatchHouse x = new WatchHouse();
        for (int i = 1; i <= 500; i++) {
            x.change(0, i % 32, i);
            due(40, "merge(0)", x.merge(0), 0);
        }
        due(44, "version(0)", x.version(0), 500);
        x.change(1, 3, 7);
        due(40, "conflicts come first", x.merge(1), 1);
        x.settle(1, 3, 1);
        due(40, "merge(1) to version 501", x.merge(1), FULL);
        due(40, "nothing is done", x.version(2), 0);
        due(40, "nothing is taken", x.setting(-2, 4), 0);
        due(40, "it is still settled", x.conflict(1, 3), 0);
        due(40, "merge(2) without a version of its own", x.merge(2), 0);
        due(44, "version(3)", x.version(3), 500);
        due(43, "setting(500, 20)", x.setting(500, 20), 500);
        due(43, "setting(501, 20)", x.setting(501, 20), NONE);
    }

    private static void never() {
        WatchHouse x = Due.oneArbor(1);
        x.calendar(0, 3, 28, 2, 1900);
        x.strike(0, 0);
        x.go();
        x.shock(50000);
        x.run(500);
        x.correct(1, 0, 3);
        x.trip(1);
        x.search(355, 113, 2);
        x.change(0, 1, 2);
        x.change(1, 2, 3);
        x.merge(0);
        x.merge(1);
        for (int what = 0; what <= 4; what++) {
            due(45, "never(" + what + ")", x.never(what), 0);
        }
        due(45, "never(-1)", x.never(-1), BAD);
        due(45, "never(5)", x.never(5), BAD);
        due(45, "the calendar was not WRONG", x.shows(0, 7), 0);
        for (int i = 0; i < x.count(5); i++) {
            due(45, "the rack struck the hour", x.struck(i, 2), i == x.count(5) - 1 ? 3 : i % 12 + 1);
        }
        due(45, "no change was lost", x.setting(2, 1) * 10 + x.setting(2, 2), 23);
    }

    public static void main(String[] args) {
        teeth();
        searches();
        equalErrors();
        fullSearch();
        chains();
        trials();
        changes();
        merges();
        conflicts();
        lastVersion();
        never();
        Due.end();
    }
}

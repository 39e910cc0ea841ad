/** Promises 1 to 14: a movement is built. */
public final class BuildingTest {
    private static final int BAD = WatchHouse.BAD, NO = WatchHouse.NO, FULL = WatchHouse.FULL;

    private static void due(int promise, String call, long got, long want) {
        Due.due(promise, call, got, want);
    }

    private static WatchHouse withArbors(int n) {
        WatchHouse x = new WatchHouse();
        for (int i = 0; i < n; i++) {
            x.arbor();
        }
        return x;
    }

    private static WatchHouse thatGoes() {
        WatchHouse x = withArbors(3);
        x.escape(0, 1);
        x.go();
        return x;
    }

    private static void emptyMovement(int promise, WatchHouse x) {
        for (int what = 0; what <= 6; what++) {
            due(promise, "count(" + what + ")", x.count(what), 0);
        }
        for (int what = 0; what <= 9; what++) {
            due(promise, "state(" + what + ")", x.state(what), what == 4 ? -1 : 0);
        }
        due(promise, "speed(0, 0)", x.speed(0, 0), WatchHouse.NONE);
        due(promise, "shows(0, 9)", x.shows(0, 9), BAD);
        due(promise, "hand(0, 0)", x.hand(0, 0), BAD);
        due(promise, "tick(0, 0)", x.tick(0, 0), BAD);
        due(promise, "struck(0, 0)", x.struck(0, 0), BAD);
        due(promise, "go()", x.go(), NO);
    }

    private static void newObject() {
        WatchHouse x = new WatchHouse();
        emptyMovement(1, x);
        due(1, "train(0, 0)", x.train(0, 0), 0);
        due(1, "error(0)", x.error(0), 0);
        due(1, "error(1)", x.error(1), 0);
        due(1, "limit(0)", x.limit(0), 0);
        due(1, "ways(0, 0)", x.ways(0, 0), 1);
        for (int k = 0; k <= 7; k++) {
            due(1, "verdict(" + k + ")", x.verdict(k), 0);
        }
        for (int i = 0; i < 32; i++) {
            for (int version = -4; version <= 0; version++) {
                due(1, "setting", x.setting(version, i), 0);
            }
        }
        for (int what = 0; what <= 4; what++) {
            due(1, "version(" + what + ")", x.version(what), 0);
        }
        due(1, "chain()", x.chain(), 0);
    }

    private static void build() {
        WatchHouse x = Due.oneArbor(1);
        x.barrel(0);
        x.torque(1, 700);
        x.dial(0, 5);
        x.chronograph(0);
        x.strike(0, 0);
        x.size(1, 5, 0, 1);
        x.rate(1, 7);
        x.change(0, 3, 9);
        x.merge(0);
        x.change(0, 3, 10);
        x.search(3, 1, 1);
        due(2, "build() of one that does not go", withArbors(2).build(), 0);
        x.go();
        x.shock(50000);
        x.run(100);
        x.wind(20);
        due(2, "build()", x.build(), 3);
        emptyMovement(2, x);
        due(2, "build() again", x.build(), 0);
        due(2, "the chain stays", x.limit(1), 6);
        due(2, "the rates stay", x.verdict(0), 7);
        due(2, "the versions stay", x.setting(1, 3), 9);
        due(2, "the copies stay", x.setting(-1, 3), 10);
        due(2, "the train stays", x.train(0, 0), 21);
        due(2, "torque(0, 3) was", noEscape(x).torque(0, 3), 0);
        due(2, "torque(1, 3) was", x.torque(1, 3), 0);
        firstBalance();
    }

    private static WatchHouse noEscape(WatchHouse x) {
        due(2, "arbor()", x.arbor(), 0);
        due(2, "go() without an escape arbor", x.go(), NO);
        return x;
    }

    /** STIFF 1, DRAG 0, GAIN 0, BANK 10000000. */
    private static void firstBalance() {
        WatchHouse x = Due.oneArbor(1);
        x.build();
        x.arbor();
        x.escape(0, 1);
        x.torque(0, 1000000);
        x.go();
        x.shock(1000);
        due(2, "run(1)", x.run(1), 1);
        due(2, "v without drag and gain", x.state(3), 1000);
        x.back(0);
        x.shock(1000000);
        x.run(1);
        due(2, "x", x.state(2), 1000000);
        x.run(1);
        due(2, "v by stiff 1", x.state(3), 1000000 - (1000000 >> 16));
        x.run(8);
        due(2, "no knock yet", x.state(7), 0);
        x.run(1);
        due(2, "a knock", x.state(7), 1);
        due(2, "x at the bank", x.state(2), 10000000);
    }

    private static void arbors() {
        WatchHouse x = new WatchHouse();
        for (int i = 0; i < 24; i++) {
            due(3, "arbor()", x.arbor(), i);
        }
        due(3, "arbor() the 25th", x.arbor(), FULL);
        due(3, "count(0)", x.count(0), 24);
        due(3, "speed(23, 1) is not known", x.speed(23, 1), 0);
        x.escape(23, 1);
        x.go();
        due(3, "arbor() when it goes and is full", x.arbor(), NO);
        due(3, "arbor() when it goes", thatGoes().arbor(), NO);
    }

    private static void meshes() {
        WatchHouse x = withArbors(3);
        int[][] bad = {{-1, 1, 1, 1, 0}, {3, 1, 1, 1, 0}, {0, 1, -1, 1, 0}, {0, 1, 3, 1, 0}, {1, 1, 1, 1, 0}, {0, 0, 1, 1, 0},
            {0, 201, 1, 1, 0}, {0, 1, 1, 0, 0}, {0, 1, 1, 201, 0}, {0, 1, 1, 1, -1}, {0, 1, 1, 1, 2}, {0, -5, 1, 1, 0}};
        for (int[] b : bad) {
            due(4, "mesh of bad numbers", x.mesh(b[0], b[1], b[2], b[3], b[4]), BAD);
        }
        due(4, "count(1)", x.count(1), 0);
        due(4, "mesh(0, 200, 1, 1, 0)", x.mesh(0, 200, 1, 1, 0), 0);
        due(4, "mesh(2, 1, 0, 200, 1)", x.mesh(2, 1, 0, 200, 1), 1);
        x.escape(0, 1);
        due(4, "a mesh turns the other way", x.speed(1, 0), -200);
        due(4, "a ring turns the same way", x.speed(2, 0), 200);
        due(4, "q", x.speed(2, 1), 1);
        for (int i = 2; i < 40; i++) {
            due(4, "mesh() as a link", x.mesh(0, 200, 1, 1, 0), i);
        }
        due(4, "mesh() the 41st", x.mesh(0, 200, 1, 1, 0), FULL);
        due(4, "a bad mesh when full", x.mesh(0, 0, 1, 1, 0), BAD);
        due(4, "count(1)", x.count(1), 40);
        x.go();
        due(4, "mesh when it goes", x.mesh(0, 200, 1, 1, 0), NO);
        due(4, "a bad mesh when it goes", x.mesh(0, 201, 1, 1, 0), BAD);
    }

    private static void epicycles() {
        WatchHouse x = withArbors(4);
        int[][] bad = {{-1, 1, 1, 1, 2}, {4, 1, 1, 1, 2}, {0, 1, -1, 1, 2}, {0, 1, 4, 1, 2}, {0, 1, 1, 1, -1}, {0, 1, 1, 1, 4},
            {0, 1, 0, 1, 2}, {0, 1, 1, 1, 0}, {0, 1, 1, 1, 1}, {0, 0, 1, 1, 2}, {0, 201, 1, 1, 2}, {0, 1, 1, 0, 2}, {0, 1, 1, 201, 2}};
        for (int[] b : bad) {
            due(5, "epicycle of bad numbers", x.epicycle(b[0], b[1], b[2], b[3], b[4]), BAD);
        }
        due(5, "epicycle(1, 1, 2, 2, 0)", x.epicycle(1, 1, 2, 2, 0), 0);
        x.escape(0, 1);
        due(5, "two are unknown", x.speed(2, 1), 0);
        due(5, "mesh(0, 5, 1, 1, 1)", x.mesh(0, 5, 1, 1, 1), 1);
        // 1 * 5 + 2 * b = 3 * 1
        due(5, "p of b", x.speed(2, 0), -1);
        due(5, "q of b", x.speed(2, 1), 1);
        // 3 * 5 + 4 * -1 = 7 * c
        due(5, "epicycle(1, 3, 2, 4, 3)", x.epicycle(1, 3, 2, 4, 3), 2);
        due(5, "p of c", x.speed(3, 0), 11);
        due(5, "q of c", x.speed(3, 1), 7);
        for (int i = 3; i < 40; i++) {
            x.epicycle(1, 3, 2, 4, 3);
        }
        due(5, "epicycle() the 41st", x.epicycle(1, 3, 2, 4, 3), FULL);
        due(5, "go()", x.go(), 4);
        due(5, "epicycle when it goes", x.epicycle(1, 3, 2, 4, 3), NO);
        due(5, "a bad epicycle when it goes", x.epicycle(1, 3, 1, 4, 3), BAD);
        WatchHouse y = withArbors(3);
        y.epicycle(0, 2, 1, 3, 2);
        y.escape(1, 1);
        y.mesh(1, 1, 2, 2, 1);
        // 2 * a + 3 * 1 = 5 / 2
        due(5, "p of a", y.speed(0, 0), -1);
        due(5, "q of a", y.speed(0, 1), 4);
    }

    private static void escapes() {
        WatchHouse x = withArbors(2);
        due(6, "escape(-1, 1)", x.escape(-1, 1), BAD);
        due(6, "escape(2, 1)", x.escape(2, 1), BAD);
        due(6, "escape(0, 0)", x.escape(0, 0), BAD);
        due(6, "escape(0, 61)", x.escape(0, 61), BAD);
        due(6, "go() without one", x.go(), NO);
        due(6, "escape(0, 60)", x.escape(0, 60), 0);
        due(6, "speed(0, 0)", x.speed(0, 0), 1);
        due(6, "escape(1, 1)", x.escape(1, 1), 0);
        due(6, "p of the other, which is none any more", x.speed(0, 0), 0);
        due(6, "q of the other, which is none any more", x.speed(0, 1), 0);
        due(6, "speed(1, 1)", x.speed(1, 1), 1);
        due(6, "go()", x.go(), 1);
        due(6, "escape when it goes", x.escape(0, 1), NO);
        due(6, "a bad escape when it goes", x.escape(0, 0), BAD);
        WatchHouse y = Due.oneArbor(3);
        y.go();
        y.shock(50000);
        Due.runToTick(y, 5);
        due(6, "turns of 3 teeth behind 5 ticks", y.speed(0, 2), 0);
        Due.runToTick(y, 6);
        due(6, "turns of 3 teeth behind 6 ticks", y.speed(0, 2), 1);
    }

    private static void balances() {
        WatchHouse x = withArbors(1);
        int[][] bad = {{0, 0, 0, 1}, {4097, 0, 0, 1}, {1, -1, 0, 1}, {1, 1001, 0, 1}, {1, 0, -1, 1}, {1, 0, 65537, 1}, {1, 0, 0, 0},
            {1, 0, 0, 10000001}};
        for (int[] b : bad) {
            due(7, "balance of bad numbers", x.balance(b[0], b[1], b[2], b[3]), BAD);
        }
        due(7, "balance of the least", x.balance(1, 0, 0, 1), 0);
        due(7, "balance of the greatest", x.balance(4096, 1000, 65536, 10000000), 0);
        x.escape(0, 1);
        x.torque(0, 300);
        x.go();
        x.shock(5000);
        x.run(1);
        due(7, "drag, then gain", x.state(3), 5000 - 1000 + 300);
        x.run(1);
        due(7, "stiff, then drag", x.state(3), 4300 - (4000 * 4096 >> 16) - 1000);
        due(7, "balance when it goes", x.balance(1, 0, 0, 1), NO);
        due(7, "a bad balance when it goes", x.balance(0, 0, 0, 1), BAD);
    }

    private static void barrels() {
        WatchHouse x = withArbors(2);
        due(8, "barrel(-2)", x.barrel(-2), BAD);
        due(8, "barrel(2)", x.barrel(2), BAD);
        due(8, "barrel(1)", x.barrel(1), 0);
        due(8, "barrel(-1)", x.barrel(-1), 0);
        due(8, "barrel(0)", x.barrel(0), 0);
        x.escape(0, 1);
        x.go();
        due(8, "barrel when it goes", x.barrel(0), NO);
        due(8, "no barrel when it goes", x.barrel(-1), NO);
        due(8, "a bad barrel when it goes", x.barrel(2), BAD);
        due(8, "wind(0) with a barrel", x.wind(0), 0);
        WatchHouse y = withArbors(2);
        y.escape(0, 1);
        y.barrel(0);
        y.barrel(-1);
        y.go();
        due(8, "wind(0) without a barrel", y.wind(0), NO);
    }

    private static void torques() {
        WatchHouse x = withArbors(1);
        due(9, "torque(-1, 0)", x.torque(-1, 0), BAD);
        due(9, "torque(9, 0)", x.torque(9, 0), BAD);
        due(9, "torque(0, -1)", x.torque(0, -1), BAD);
        due(9, "torque(0, 1000001)", x.torque(0, 1000001), BAD);
        for (int k = 0; k <= 8; k++) {
            due(9, "torque(k, 1000000 - k)", x.torque(k, 1000000 - k), 0);
        }
        for (int k = 0; k <= 8; k++) {
            due(9, "torque(k, k)", x.torque(k, k), 1000000 - k);
        }
        x.torque(0, 17);
        due(9, "state(5)", x.state(5), 17);
        x.escape(0, 1);
        x.go();
        due(9, "torque when it goes", x.torque(0, 0), NO);
        due(9, "a bad torque when it goes", x.torque(9, 0), BAD);
        due(9, "state(5) stays", x.state(5), 17);
    }

    private static void works() {
        WatchHouse x = withArbors(2);
        due(10, "dial(-1, 2)", x.dial(-1, 2), BAD);
        due(10, "dial(2, 2)", x.dial(2, 2), BAD);
        due(10, "dial(0, 1)", x.dial(0, 1), BAD);
        due(10, "dial(0, 1001)", x.dial(0, 1001), BAD);
        due(10, "dial(0, 2)", x.dial(0, 2), 0);
        due(10, "dial(1, 1000)", x.dial(1, 1000), 1);
        int[][] bad = {{-1, 0, 1, 1, 1}, {2, 0, 1, 1, 1}, {0, -1, 1, 1, 1}, {0, 4, 1, 1, 1}, {0, 0, 0, 1, 1}, {0, 0, 32, 1, 1},
            {0, 0, 31, 4, 1}, {0, 0, 1, 0, 1}, {0, 0, 1, 13, 1}, {0, 0, 1, 1, 0}, {0, 0, 1, 1, 10000}, {0, 0, 29, 2, 1900},
            {0, 0, 29, 2, 2023}, {0, 0, 30, 2, 2000}, {0, 0, 31, 6, 1}, {0, 0, 31, 9, 1}, {0, 0, 31, 11, 1}};
        for (int[] b : bad) {
            due(11, "calendar of bad numbers", x.calendar(b[0], b[1], b[2], b[3], b[4]), BAD);
        }
        due(11, "calendar(0, 0, 29, 2, 2000)", x.calendar(0, 0, 29, 2, 2000), 2);
        due(11, "calendar(0, 3, 31, 12, 9999)", x.calendar(0, 3, 31, 12, 9999), 3);
        due(11, "calendar(0, 1, 1, 1, 1)", x.calendar(0, 1, 1, 1, 1), 4);
        int[] shown = {29, 2, 2000, 1, 29, 2, 2000, 0, 0, 0};
        for (int what = 0; what < shown.length; what++) {
            due(11, "shows(2, " + what + ")", x.shows(2, what), shown[what]);
        }
        due(11, "31.12.9999 is a Friday", x.shows(3, 3), 4);
        due(11, "1.1.1 is a Monday", x.shows(4, 3), 0);
        due(12, "strike(-1, 0)", x.strike(-1, 0), BAD);
        due(12, "strike(2, 0)", x.strike(2, 0), BAD);
        due(12, "strike(0, -1)", x.strike(0, -1), BAD);
        due(12, "strike(0, 2)", x.strike(0, 2), BAD);
        due(12, "strike(1, 1)", x.strike(1, 1), 5);
        due(12, "strike(1, 0)", x.strike(1, 0), 6);
        due(12, "its hour", x.shows(6, 0), 12);
        due(12, "its place", x.shows(6, 1), 1);
        due(12, "it is not silent", x.shows(6, 2), 0);
        due(10, "dial(0, 3)", x.dial(0, 3), 7);
        fullOfWorks(x);
    }

    private static void fullOfWorks(WatchHouse x) {
        due(10, "dial when full", x.dial(0, 3), FULL);
        due(11, "calendar when full", x.calendar(0, 0, 1, 1, 1), FULL);
        due(12, "strike when full", x.strike(0, 0), FULL);
        due(10, "a bad dial when full", x.dial(0, 0), BAD);
        due(12, "count(2)", x.count(2), 8);
        due(25, "shows(8, 9) of 8 works", x.shows(8, 9), BAD);
        x.escape(0, 1);
        x.go();
        due(10, "dial when it goes", x.dial(0, 3), NO);
        due(11, "calendar when it goes", x.calendar(0, 0, 1, 1, 1), NO);
        due(12, "strike when it goes", x.strike(0, 0), NO);
        due(10, "a bad dial when it goes", x.dial(0, 0), BAD);
        due(11, "a bad calendar when it goes", x.calendar(0, 0, 0, 1, 1), BAD);
        due(12, "a bad strike when it goes", x.strike(0, 2), BAD);
    }

    private static void chronographs() {
        WatchHouse x = withArbors(1);
        due(13, "chronograph(-1)", x.chronograph(-1), BAD);
        due(13, "chronograph(3)", x.chronograph(3), BAD);
        for (int i = 0; i < 4; i++) {
            due(13, "chronograph()", x.chronograph(i % 3), i);
        }
        due(13, "chronograph() the 5th", x.chronograph(0), FULL);
        due(13, "a bad one when full", x.chronograph(3), BAD);
        due(13, "count(3)", x.count(3), 4);
        due(27, "hand(4, 0) of 4 chronographs", x.hand(4, 0), BAD);
        for (int what = 0; what < 4; what++) {
            due(13, "hand(3, what)", x.hand(3, what), 0);
        }
        x.escape(0, 1);
        x.go();
        due(13, "chronograph when it goes", x.chronograph(0), NO);
        due(13, "a bad one when it goes", x.chronograph(3), BAD);
    }

    private static void goes() {
        WatchHouse x = withArbors(4);
        due(14, "go() without an escape arbor", x.go(), NO);
        x.escape(0, 1);
        x.mesh(0, 1, 1, 2, 0);
        x.mesh(2, 1, 3, 1, 0);
        due(14, "count(6)", x.count(6), 0);
        due(14, "go() with two that are known", x.go(), 2);
        due(14, "count(6)", x.count(6), 1);
        due(14, "go() again", x.go(), NO);
        WatchHouse y = withArbors(2);
        y.escape(0, 1);
        y.mesh(0, 1, 1, 2, 0);
        y.mesh(0, 1, 1, 2, 1);
        due(14, "state(9)", y.state(9), 1);
        due(14, "go() of one that is locked", y.go(), NO);
        due(14, "count(6)", y.count(6), 0);
        y.build();
        due(2, "a new one is not locked", y.state(9), 0);
        y.arbor();
        due(2, "no speed is known in a new one", y.speed(0, 1), 0);
    }

    public static void main(String[] args) {
        newObject();
        build();
        arbors();
        meshes();
        epicycles();
        escapes();
        balances();
        barrels();
        torques();
        works();
        chronographs();
        goes();
        Due.end();
    }
}

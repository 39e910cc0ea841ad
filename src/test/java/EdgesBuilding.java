import com.sun.management.ThreadMXBean;
import java.lang.management.ManagementFactory;
import java.time.LocalDate;
import java.util.function.Supplier;

/** Boundaries of promises 1 to 14: one method for each sentence. */
final class EdgesBuilding {
    private static final int BAD = Edge.BAD, NO = Edge.NO, FULL = Edge.FULL;
    private static final String FIRST = "of several the one named first is answered";
    private static final String BUILDING_ONLY = "NO in all of these but build(), when the movement goes";

    private EdgesBuilding() {
    }

    private static void says(int promise, String sentence) {
        Edge.says(promise, sentence);
    }

    private static void due(String call, long got, long want) {
        Edge.due(call, got, want);
    }

    private static void refuses(String call, long want, Supplier<WatchHouse> made, Edge.Call asked) {
        Edge.refuses(call, want, made, asked);
    }

    /** An object behind use(). */
    private static WatchHouse used() {
        WatchHouse x = new WatchHouse();
        use(x);
        return x;
    }

    /** Builds a movement of every part, some of them full; it goes, and its book has five rows. */
    private static void use(WatchHouse x) {
        x.build();
        for (int i = 0; i < 25; i++) {
            x.arbor();
        }
        x.escape(0, 2);
        for (int i = 0; i < 40; i++) {
            x.mesh(0, 4, 1, 2, 0);
        }
        x.balance(4096, 3, 65536, 60000);
        x.barrel(1);
        for (int k = 0; k <= 8; k++) {
            x.torque(k, 5000);
        }
        for (int i = 0; i < 2; i++) {
            x.dial(1, 3);
            x.calendar(1, 0, 28, 2, 2023);
            x.strike(1, 0);
            x.strike(1, 1);
            x.chronograph(1);
            x.chronograph(2);
        }
        x.dial(1, 3);
        x.go();
        x.press(0, 0);
        x.shock(50000);
        x.run(200);
        x.correct(0, 0, 2);
        x.trip(2);
        x.back(4);
        x.wind(9);
    }

    private static void same(String call, WatchHouse got, WatchHouse want) {
        long[] a = Probe.answers(got);
        long[] b = Probe.answers(want);
        for (int i = 0; i < a.length; i++) {
            due(call + ": answer " + i, a[i], b[i]);
        }
    }

    // ---- 1, 2

    private static void newIsBehindBuild() {
        says(1, "As behind build(); the house's own as at first.");
        WatchHouse x = used();
        x.build();
        same("a new object", new WatchHouse(), x);
    }

    private static void newHasNothing() {
        says(1, "What there is is numbered from 0 on, as it is told.");
        WatchHouse x = new WatchHouse();
        for (int what = 0; what <= 6; what++) {
            due("count(" + what + ")", x.count(what), 0);
        }
        due("arbor()", x.arbor(), 0);
        due("arbor()", x.arbor(), 1);
        due("mesh(0, 1, 1, 1, 0)", x.mesh(0, 1, 1, 1, 0), 0);
        due("dial(0, 2)", x.dial(0, 2), 0);
        due("strike(0, 0)", x.strike(0, 0), 1);
        due("chronograph(0)", x.chronograph(0), 0);
        due("size(1, 0, 0, 0)", x.size(1, 0, 0, 0), 0);
    }

    private static void memoryIsMadeOnce() {
        says(1, "All memory is the class's own, made once.");
        WatchHouse x = new WatchHouse();
        // At times the machine itself makes room, for what it loads and links: what calls take is taken every time.
        long used = Long.MAX_VALUE;
        long unused = Long.MAX_VALUE;
        for (int i = 0; i < 8; i++) {
            used = Math.min(used, roomTaken(x, true));
            unused = Math.min(unused, roomTaken(x, false));
        }
        due("bytes that calls take of the machine, beyond those of asking for them", used - unused, 0);
    }

    private static long roomTaken(WatchHouse x, boolean used) {
        if (!(ManagementFactory.getThreadMXBean() instanceof ThreadMXBean bean)) {
            return 0;
        }
        long before = bean.getCurrentThreadAllocatedBytes();
        if (used) {
            use(x);
            EdgesHouse.furnish(x);
            x.chain();
        }
        return bean.getCurrentThreadAllocatedBytes() - before;
    }

    private static void buildLeavesNothing() {
        says(2, "A new movement, with nothing in it (STIFF 1, DRAG 0, GAIN 0, BANK 10000000), is built");
        WatchHouse x = used();
        x.build();
        for (int what = 0; what <= 6; what++) {
            due("count(" + what + ")", x.count(what), 0);
        }
        for (int what = 0; what <= 9; what++) {
            due("state(" + what + ")", x.state(what), what == 4 ? -1 : 0);
        }
        due("tick(0, 0)", x.tick(0, 0), BAD);
        due("struck(0, 0)", x.struck(0, 0), BAD);
        due("shows(0, 9)", x.shows(0, 9), BAD);
        due("hand(0, 0)", x.hand(0, 0), BAD);
        due("go()", x.go(), NO);
        for (int i = 0; i < 24; i++) {
            due("arbor()", x.arbor(), i);
            for (int what = 0; what <= 2; what++) {
                due("speed(" + i + ", " + what + ")", x.speed(i, what), 0);
            }
        }
        for (int k = 0; k <= 8; k++) {
            due("torque(" + k + ", 0)", x.torque(k, 0), 0);
        }
    }

    /** A work that had another kind, or more marks, in the movement before is all new. */
    private static void worksAreNew() {
        says(2, "A new movement, with nothing in it");
        WatchHouse x = used();
        x.build();
        x.arbor();
        x.escape(0, 1);
        x.dial(0, 4);
        x.strike(0, 0);
        x.calendar(0, 3, 1, 3, 2024);
        x.chronograph(0);
        int[][] want = {{0, BAD, BAD, BAD, BAD, BAD, BAD, BAD, BAD, 0}, {12, 1, 0, BAD, BAD, BAD, BAD, BAD, BAD, 0},
            {1, 3, 2024, 4, 1, 3, 2024, 0, 0, 0}};
        for (int work = 0; work < want.length; work++) {
            for (int what = 0; what < 10; what++) {
                due("shows(" + work + ", " + what + ")", x.shows(work, what), want[work][what]);
            }
        }
        for (int what = 0; what < 4; what++) {
            due("hand(0, " + what + ")", x.hand(0, what), 0);
        }
        due("shows(3, 9)", x.shows(3, 9), BAD);
        due("hand(1, 0)", x.hand(1, 0), BAD);
    }

    private static void firstBalance() {
        says(2, "(STIFF 1, DRAG 0, GAIN 0, BANK 10000000)");
        WatchHouse x = used();
        x.build();
        x.arbor();
        x.escape(0, 1);
        x.torque(0, 1000000);
        x.go();
        x.shock(1000);
        due("run(1)", x.run(1), 1);
        due("v behind a tick, without DRAG and GAIN", x.state(3), 1000);
        x.back(0);
        x.shock(1000000);
        x.run(2);
        due("v by STIFF 1", x.state(3), 1000000 - 15);
        x.run(8);
        due("no KNOCK below 10000000", x.state(7), 0);
        x.run(1);
        due("x at the BANK", x.state(2), 10000000);
        due("a KNOCK", x.state(7), 1);
    }

    private static void buildTellsRows() {
        says(2, "how many rows the book of the old one had");
        WatchHouse x = new WatchHouse();
        due("build() of a new object", x.build(), 0);
        x.arbor();
        due("build() of one that does not go", x.build(), 0);
        due("build() without a row", Edge.going(1).build(), 0);
        x = used();
        due("build()", x.build(), 5);
        due("build() again", x.build(), 0);
        x = used();
        x.back(2);
        due("build() behind back(2)", x.build(), 2);
        due("build() of a full book", Edge.fullBook(Edge.going(1)).build(), 2000);
    }

    private static void buildWhenItGoes() {
        says(2, BUILDING_ONLY);
        WatchHouse x = Edge.going(1);
        x.shock(1);
        due("build() when it goes", x.build(), 1);
        due("count(6)", x.count(6), 0);
        due("arbor()", x.arbor(), 0);
    }

    private static void buildLeavesTheHouse() {
        says(2, "Sections 4 to 7 are the house's, not the movement's: build() and back() leave them.");
        WatchHouse x = EdgesHouse.furnished();
        x.build();
        same("build()", x, EdgesHouse.furnished());
    }

    // ---- 3

    private static void twentyFourArbors() {
        says(3, "THE MOVEMENT has ARBORS (24)");
        WatchHouse x = new WatchHouse();
        for (int i = 0; i < 24; i++) {
            due("arbor()", x.arbor(), i);
        }
        refuses("the 25th arbor()", FULL, () -> Edge.arbors(24), WatchHouse::arbor);
        due("count(0)", Edge.arbors(25).count(0), 24);
    }

    private static void arborWhenItGoes() {
        says(3, BUILDING_ONLY);
        refuses("arbor()", NO, () -> Edge.going(1), WatchHouse::arbor);
        says(3, FIRST);
        refuses("arbor() when it goes and has 24", NO, () -> Edge.going(24), WatchHouse::arbor);
    }

    // ---- 4, 5

    private static WatchHouse fullOfLinks(int meshes) {
        WatchHouse x = Edge.arbors(3);
        x.escape(0, 1);
        for (int i = 0; i < meshes; i++) {
            due("mesh()", x.mesh(0, 1, 1, 2, 0), i);
        }
        for (int i = meshes; i < 40; i++) {
            due("epicycle()", x.epicycle(0, 1, 1, 2, 2), i);
        }
        return x;
    }

    private static WatchHouse goingFullOfLinks() {
        WatchHouse x = fullOfLinks(20);
        x.go();
        return x;
    }

    private static void meshOfNoArbor() {
        says(4, "no such arbors");
        Edge.outside("mesh(a, 1, 1, 1, 0)", 0, 2, () -> Edge.arbors(3), (x, v) -> x.mesh(v, 1, 1, 1, 0));
        Edge.outside("mesh(0, 1, b, 1, 0)", 0, 2, () -> Edge.arbors(3), (x, v) -> x.mesh(0, 1, v, 1, 0));
        refuses("mesh(0, 1, 1, 1, 0) without arbors", BAD, WatchHouse::new, x -> x.mesh(0, 1, 1, 1, 0));
        due("mesh(0, 1, 2, 1, 0)", Edge.arbors(3).mesh(0, 1, 2, 1, 0), 0);
        due("mesh(2, 1, 0, 1, 0)", Edge.arbors(3).mesh(2, 1, 0, 1, 0), 0);
        due("mesh(23, 1, 22, 1, 0)", Edge.arbors(24).mesh(23, 1, 22, 1, 0), 0);
        refuses("mesh(24, 1, 22, 1, 0) of 24", BAD, () -> Edge.arbors(24), x -> x.mesh(24, 1, 22, 1, 0));
    }

    private static void meshOfOne() {
        says(4, "both are the same");
        refuses("mesh(1, 1, 1, 1, 0)", BAD, () -> Edge.arbors(2), x -> x.mesh(1, 1, 1, 1, 0));
        refuses("mesh(0, 2, 0, 3, 1)", BAD, () -> Edge.arbors(2), x -> x.mesh(0, 2, 0, 3, 1));
    }

    private static void meshTeeth() {
        says(4, "m or n is not 1 .. 200");
        Edge.range("mesh(0, m, 1, 1, 0)", 1, 200, 0, () -> Edge.arbors(2), (x, v) -> x.mesh(0, v, 1, 1, 0));
        Edge.range("mesh(0, 1, 1, n, 0)", 1, 200, 0, () -> Edge.arbors(2), (x, v) -> x.mesh(0, 1, 1, v, 0));
        Edge.range("mesh(0, 1, 1, n, 1)", 1, 200, 0, () -> Edge.arbors(2), (x, v) -> x.mesh(0, 1, 1, v, 1));
    }

    private static void meshRing() {
        says(4, "ring not 0, 1");
        Edge.range("mesh(0, 1, 1, 1, ring)", 0, 1, 0, () -> Edge.arbors(2), (x, v) -> x.mesh(0, 1, 1, 1, v));
    }

    private static void meshWhenItGoes() {
        says(4, BUILDING_ONLY);
        refuses("mesh(0, 1, 1, 1, 0)", NO, () -> Edge.going(2), x -> x.mesh(0, 1, 1, 1, 0));
        refuses("mesh(0, 1, 1, 1, 1)", NO, () -> Edge.going(2), x -> x.mesh(0, 1, 1, 1, 1));
    }

    private static void fortyLinks() {
        says(4, "LINKS (40)");
        refuses("the 41st link, a mesh", FULL, () -> fullOfLinks(40), x -> x.mesh(0, 1, 2, 2, 0));
        refuses("the 41st link, a mesh behind epicycles", FULL, () -> fullOfLinks(1), x -> x.mesh(0, 1, 1, 2, 1));
        due("count(1)", fullOfLinks(39).count(1), 40);
        says(5, "LINKS (40)");
        refuses("the 41st link, an epicycle", FULL, () -> fullOfLinks(1), x -> x.epicycle(0, 1, 1, 2, 2));
        refuses("the 41st link, an epicycle behind meshes", FULL, () -> fullOfLinks(40), x -> x.epicycle(0, 1, 1, 2, 2));
    }

    private static void linksNamedFirst() {
        says(4, FIRST);
        refuses("mesh of a wrong arbor when it goes", BAD, EdgesBuilding::goingFullOfLinks, x -> x.mesh(0, 1, 3, 1, 0));
        refuses("mesh of the same when it goes", BAD, EdgesBuilding::goingFullOfLinks, x -> x.mesh(1, 1, 1, 1, 0));
        refuses("mesh of wrong teeth when it goes", BAD, EdgesBuilding::goingFullOfLinks, x -> x.mesh(0, 1, 1, 0, 0));
        refuses("mesh of a wrong ring when it goes", BAD, EdgesBuilding::goingFullOfLinks, x -> x.mesh(0, 1, 1, 1, 2));
        refuses("mesh of wrong teeth when full", BAD, () -> fullOfLinks(3), x -> x.mesh(0, 201, 1, 1, 0));
        refuses("mesh when it goes and is full", NO, EdgesBuilding::goingFullOfLinks, x -> x.mesh(0, 1, 1, 2, 0));
        says(5, FIRST);
        refuses("epicycle of a wrong arbor when it goes", BAD, EdgesBuilding::goingFullOfLinks, x -> x.epicycle(0, 1, 1, 1, 3));
        refuses("epicycle of the same when it goes", BAD, EdgesBuilding::goingFullOfLinks, x -> x.epicycle(0, 1, 1, 1, 1));
        refuses("epicycle of wrong teeth when it goes", BAD, EdgesBuilding::goingFullOfLinks, x -> x.epicycle(0, 0, 1, 1, 2));
        refuses("epicycle of wrong teeth when full", BAD, () -> fullOfLinks(3), x -> x.epicycle(0, 1, 1, 201, 2));
        refuses("epicycle when it goes and is full", NO, EdgesBuilding::goingFullOfLinks, x -> x.epicycle(0, 1, 1, 2, 2));
    }

    private static void epicycleOfNoArbor() {
        says(5, "no such arbors");
        Edge.outside("epicycle(a, 1, 1, 1, 2)", 0, 2, () -> Edge.arbors(3), (x, v) -> x.epicycle(v, 1, 1, 1, 2));
        Edge.outside("epicycle(0, 1, b, 1, 2)", 0, 2, () -> Edge.arbors(3), (x, v) -> x.epicycle(0, 1, v, 1, 2));
        Edge.outside("epicycle(0, 1, 1, 1, c)", 0, 2, () -> Edge.arbors(3), (x, v) -> x.epicycle(0, 1, 1, 1, v));
        refuses("epicycle(0, 1, 1, 1, 2) without arbors", BAD, WatchHouse::new, x -> x.epicycle(0, 1, 1, 1, 2));
        due("epicycle(2, 1, 1, 1, 0)", Edge.arbors(3).epicycle(2, 1, 1, 1, 0), 0);
        due("epicycle(23, 1, 22, 1, 21)", Edge.arbors(24).epicycle(23, 1, 22, 1, 21), 0);
    }

    private static void epicycleOfTwo() {
        says(5, "two are the same");
        refuses("a is b", BAD, () -> Edge.arbors(3), x -> x.epicycle(0, 1, 0, 1, 2));
        refuses("a is c", BAD, () -> Edge.arbors(3), x -> x.epicycle(0, 1, 1, 1, 0));
        refuses("b is c", BAD, () -> Edge.arbors(3), x -> x.epicycle(0, 1, 1, 1, 1));
        refuses("all are the same", BAD, () -> Edge.arbors(3), x -> x.epicycle(2, 1, 2, 1, 2));
    }

    private static void epicycleTeeth() {
        says(5, "m or n is not 1 .. 200");
        Edge.range("epicycle(0, m, 1, 1, 2)", 1, 200, 0, () -> Edge.arbors(3), (x, v) -> x.epicycle(0, v, 1, 1, 2));
        Edge.range("epicycle(0, 1, 1, n, 2)", 1, 200, 0, () -> Edge.arbors(3), (x, v) -> x.epicycle(0, 1, 1, v, 2));
    }

    private static void epicycleWhenItGoes() {
        says(5, BUILDING_ONLY);
        refuses("epicycle(0, 1, 1, 1, 2)", NO, () -> Edge.going(3), x -> x.epicycle(0, 1, 1, 1, 2));
    }

    // ---- 6 to 9

    private static void escapeOfNoArbor() {
        says(6, "no such arbor");
        Edge.range("escape(arbor, 1)", 0, 2, 0, () -> Edge.arbors(3), (x, v) -> x.escape(v, 1));
        refuses("escape(0, 1) without arbors", BAD, WatchHouse::new, x -> x.escape(0, 1));
        refuses("escape(24, 1) of 24", BAD, () -> Edge.arbors(24), x -> x.escape(24, 1));
    }

    private static void escapeTeeth() {
        says(6, "teeth are not 1 .. 60");
        Edge.range("escape(0, teeth)", 1, 60, 0, () -> Edge.arbors(1), (x, v) -> x.escape(0, v));
        for (int teeth : new int[] {1, 60}) {
            WatchHouse x = Edge.ticked(Due.oneArbor(teeth), 2 * teeth - 1);
            due("turns of " + teeth + " teeth, a tick before the first", x.speed(0, 2), 0);
            Due.runToTick(x, 2 * teeth);
            due("turns of " + teeth + " teeth, at the first", x.speed(0, 2), 1);
        }
    }

    private static void anotherEscape() {
        says(6, "(another one before is none any more)");
        WatchHouse x = Edge.arbors(2);
        x.escape(0, 60);
        due("escape(1, 1)", x.escape(1, 1), 0);
        due("p of the one before", x.speed(0, 0), 0);
        due("q of the one before", x.speed(0, 1), 0);
        due("p of the other", x.speed(1, 0), 1);
        due("q of the other", x.speed(1, 1), 1);
        due("escape(1, 2) of the same once more", x.escape(1, 2), 0);
        due("q of the same", x.speed(1, 1), 1);
        due("go()", x.go(), 1);
    }

    private static void escapeWhenItGoes() {
        says(6, BUILDING_ONLY);
        refuses("escape(1, 9)", NO, () -> Edge.going(2), x -> x.escape(1, 9));
        says(6, FIRST);
        refuses("escape(2, 9)", BAD, () -> Edge.going(2), x -> x.escape(2, 9));
        refuses("escape(1, 61)", BAD, () -> Edge.going(2), x -> x.escape(1, 61));
    }

    /** The calls that name no FULL are carried out in a movement in which nothing more has room. */
    private static void fullOfAll() {
        WatchHouse x = Edge.arbors(24);
        for (int i = 0; i < 40; i++) {
            x.mesh(0, 1, 1, 2, 0);
            x.dial(0, 9);
            x.chronograph(0);
        }
        says(6, "BAD: no such arbor; teeth are not 1 .. 60. NO.");
        due("escape(23, 60)", x.escape(23, 60), 0);
        says(7, "bank not 1 .. 10000000. NO.");
        due("balance(1, 0, 0, 1)", x.balance(1, 0, 0, 1), 0);
        says(8, "BAD: no such arbor. NO.");
        due("barrel(23)", x.barrel(23), 0);
        says(9, "v not 0 .. 1000000. NO.");
        due("torque(8, 1000000)", x.torque(8, 1000000), 0);
        says(14, "NO: it goes, has no escape arbor, or is LOCKED.");
        due("go()", x.go(), 1);
    }

    private static WatchHouse balanced() {
        WatchHouse x = Due.oneArbor(1);
        x.balance(4000, 7, 60000, 90000);
        return x;
    }

    private static void balances() {
        says(7, "BAD: stiff is not 1 .. 4096");
        Edge.range("balance(stiff, 0, 0, 1)", 1, 4096, 0, EdgesBuilding::balanced, (x, v) -> x.balance(v, 0, 0, 1));
        says(7, "drag not 0 .. 1000");
        Edge.range("balance(1, drag, 0, 1)", 0, 1000, 0, EdgesBuilding::balanced, (x, v) -> x.balance(1, v, 0, 1));
        says(7, "gain not 0 .. 65536");
        Edge.range("balance(1, 0, gain, 1)", 0, 65536, 0, EdgesBuilding::balanced, (x, v) -> x.balance(1, 0, v, 1));
        says(7, "bank not 1 .. 10000000");
        Edge.range("balance(1, 0, 0, bank)", 1, 10000000, 0, EdgesBuilding::balanced, (x, v) -> x.balance(1, 0, 0, v));
    }

    private static void balanceWhenItGoes() {
        says(7, BUILDING_ONLY);
        refuses("balance(1, 0, 0, 1)", NO, () -> Edge.ticked(balanced(), 3), x -> x.balance(1, 0, 0, 1));
        says(7, FIRST);
        refuses("balance(0, 0, 0, 1)", BAD, () -> Edge.ticked(balanced(), 3), x -> x.balance(0, 0, 0, 1));
        refuses("balance(1, 1001, 0, 1)", BAD, () -> Edge.going(1), x -> x.balance(1, 1001, 0, 1));
        refuses("balance(1, 0, -1, 1)", BAD, () -> Edge.going(1), x -> x.balance(1, 0, -1, 1));
        refuses("balance(1, 0, 0, 0)", BAD, () -> Edge.going(1), x -> x.balance(1, 0, 0, 0));
    }

    private static WatchHouse withBarrel() {
        WatchHouse x = Edge.arbors(3);
        x.escape(0, 1);
        x.balance(4096, 0, 65536, 10000000);
        x.barrel(0);
        return x;
    }

    private static void barrels() {
        says(8, "(-1: there is no barrel, as at first)");
        due("wind(0) at first", Edge.going(1).wind(0), NO);
        WatchHouse x = withBarrel();
        due("barrel(-1)", x.barrel(-1), 0);
        x.go();
        due("wind(0) behind barrel(-1)", x.wind(0), NO);
        due("barrel(-1) without arbors", new WatchHouse().barrel(-1), 0);
        says(8, "no such arbor");
        Edge.range("barrel(arbor)", -1, 2, 0, EdgesBuilding::withBarrel, WatchHouse::barrel);
        refuses("barrel(0) without arbors", BAD, WatchHouse::new, y -> y.barrel(0));
    }

    private static void barrelWhenItGoes() {
        Supplier<WatchHouse> goes = () -> Edge.ticked(withBarrel(), 3);
        says(8, BUILDING_ONLY);
        refuses("barrel(1)", NO, goes, x -> x.barrel(1));
        refuses("barrel(-1)", NO, goes, x -> x.barrel(-1));
        says(8, FIRST);
        refuses("barrel(3)", BAD, goes, x -> x.barrel(3));
        refuses("barrel(-2)", BAD, goes, x -> x.barrel(-2));
    }

    private static void torques() {
        says(9, "BAD: k is not 0 .. 8");
        Edge.range("torque(k, 7)", 0, 8, 0, () -> Edge.arbors(1), (x, v) -> x.torque(v, 7));
        says(9, "v not 0 .. 1000000");
        Edge.range("torque(8, v)", 0, 1000000, 0, () -> Edge.arbors(1), (x, v) -> x.torque(8, v));
        says(9, "of points 0 .. 8 (0 at first)");
        WatchHouse x = new WatchHouse();
        for (int k = 0; k <= 8; k++) {
            due("torque(" + k + ", 1000000)", x.torque(k, 1000000), 0);
            due("torque(" + k + ", 0)", x.torque(k, 0), 1000000);
        }
    }

    private static void torqueWhenItGoes() {
        says(9, BUILDING_ONLY);
        refuses("torque(0, 9)", NO, () -> Edge.started(4096, 0, 9, 100, 7), x -> x.torque(0, 9));
        says(9, FIRST);
        refuses("torque(9, 9)", BAD, () -> Edge.going(1), x -> x.torque(9, 9));
        refuses("torque(0, 1000001)", BAD, () -> Edge.going(1), x -> x.torque(0, 1000001));
    }

    // ---- 10 to 13

    private static WatchHouse fullOfWorks() {
        WatchHouse x = Edge.arbors(2);
        x.escape(0, 1);
        for (int i = 0; i < 8; i++) {
            long number = i % 3 == 0 ? x.dial(0, 9) : i % 3 == 1 ? x.calendar(0, 1, 1, 1, 1) : x.strike(0, 1);
            due("a work", number, i);
        }
        return x;
    }

    private static WatchHouse goingFullOfWorks() {
        WatchHouse x = fullOfWorks();
        x.go();
        return x;
    }

    private static void dials() {
        says(10, "no such arbor");
        Edge.range("dial(arbor, 2)", 0, 1, 0, () -> Edge.arbors(2), (x, v) -> x.dial(v, 2));
        refuses("dial(0, 2) without arbors", BAD, WatchHouse::new, x -> x.dial(0, 2));
        says(10, "marks are not 2 .. 1000");
        Edge.range("dial(0, marks)", 2, 1000, 0, () -> Edge.arbors(2), (x, v) -> x.dial(0, v));
        says(10, BUILDING_ONLY);
        refuses("dial(0, 2)", NO, () -> Edge.going(1), x -> x.dial(0, 2));
        says(10, "WORKS (8) hang on arbors");
        refuses("the 9th work, a dial", FULL, EdgesBuilding::fullOfWorks, x -> x.dial(0, 2));
        due("count(2)", fullOfWorks().count(2), 8);
        says(10, FIRST);
        refuses("dial(2, 2) when it goes", BAD, EdgesBuilding::goingFullOfWorks, x -> x.dial(2, 2));
        refuses("dial(0, 1) when it goes", BAD, EdgesBuilding::goingFullOfWorks, x -> x.dial(0, 1));
        refuses("dial(0, 1001) when full", BAD, EdgesBuilding::fullOfWorks, x -> x.dial(0, 1001));
        refuses("dial(0, 2) when it goes and is full", NO, EdgesBuilding::goingFullOfWorks, x -> x.dial(0, 2));
    }

    private static void calendars() {
        says(11, "no such arbor");
        Edge.range("calendar(arbor, 0, 1, 1, 1)", 0, 1, 0, () -> Edge.arbors(2), (x, v) -> x.calendar(v, 0, 1, 1, 1));
        refuses("calendar(0, 0, 1, 1, 1) without arbors", BAD, WatchHouse::new, x -> x.calendar(0, 0, 1, 1, 1));
        says(11, "kind is not 0 .. 3");
        Edge.range("calendar(0, kind, 1, 1, 1)", 0, 3, 0, () -> Edge.arbors(2), (x, v) -> x.calendar(0, v, 1, 1, 1));
        says(11, BUILDING_ONLY);
        refuses("calendar(0, 0, 1, 1, 1)", NO, () -> Edge.going(1), x -> x.calendar(0, 0, 1, 1, 1));
        says(11, "WORKS (8) hang on arbors");
        refuses("the 9th work, a calendar", FULL, EdgesBuilding::fullOfWorks, x -> x.calendar(0, 0, 1, 1, 1));
        says(11, FIRST);
        refuses("calendar(2, 0, 1, 1, 1) when it goes", BAD, EdgesBuilding::goingFullOfWorks, x -> x.calendar(2, 0, 1, 1, 1));
        refuses("calendar(0, 4, 1, 1, 1) when it goes", BAD, EdgesBuilding::goingFullOfWorks, x -> x.calendar(0, 4, 1, 1, 1));
        refuses("calendar(0, 0, 32, 1, 1) when it goes", BAD, EdgesBuilding::goingFullOfWorks, x -> x.calendar(0, 0, 32, 1, 1));
        refuses("calendar(0, 0, 0, 1, 1) when full", BAD, EdgesBuilding::fullOfWorks, x -> x.calendar(0, 0, 0, 1, 1));
        refuses("calendar when it goes and is full", NO, EdgesBuilding::goingFullOfWorks, x -> x.calendar(0, 0, 1, 1, 1));
    }

    private static void days() {
        says(11, "no day of years 1 .. 9999");
        Edge.range("calendar(0, 0, 1, 1, year)", 1, 9999, 0, () -> Edge.arbors(1), (x, v) -> x.calendar(0, 0, 1, 1, v));
        Edge.range("calendar(0, 0, 1, month, 1)", 1, 12, 0, () -> Edge.arbors(1), (x, v) -> x.calendar(0, 0, 1, v, 1));
        int[] lengths = {31, 28, 31, 30, 31, 30, 31, 31, 30, 31, 30, 31};
        for (int i = 0; i < 12; i++) {
            int month = i + 1;
            Edge.range("calendar(0, 0, day, " + month + ", 2023)", 1, lengths[i], 0, () -> Edge.arbors(1),
                (x, v) -> x.calendar(0, 0, v, month, 2023));
        }
    }

    private static void gregorianYears() {
        says(11, "(1.1.1 to 31.12.9999, by the Gregorian years: 4, not 100, but 400)");
        int[][] years = {{4, 0}, {100, BAD}, {400, 0}, {1900, BAD}, {1996, 0}, {2000, 0}, {2001, BAD}, {2002, BAD}, {2100, BAD}, {9996, 0},
            {9999, BAD}, {1, BAD}};
        for (int[] year : years) {
            for (int kind = 0; kind < 4; kind++) {
                due("calendar(0, " + kind + ", 29, 2, " + year[0] + ")", Edge.arbors(1).calendar(0, kind, 29, 2, year[0]), year[1]);
                due("calendar(0, " + kind + ", 30, 2, " + year[0] + ")", Edge.arbors(1).calendar(0, kind, 30, 2, year[0]), BAD);
            }
        }
        WatchHouse x = Edge.arbors(1);
        due("1.1.1", x.calendar(0, 3, 1, 1, 1), 0);
        due("31.12.9999", x.calendar(0, 3, 31, 12, 9999), 1);
    }

    private static void weekDays() {
        says(11, "week day (0 Monday)");
        WatchHouse x = new WatchHouse();
        for (int year = 1; year <= 9999; year++) {
            x.build();
            x.arbor();
            int[][] days = {{1, 1}, {28, 2}, {1, 3}, {31, 12}};
            for (int i = 0; i < days.length; i++) {
                x.calendar(0, 0, days[i][0], days[i][1], year);
                int want = LocalDate.of(year, days[i][1], days[i][0]).getDayOfWeek().getValue() - 1;
                due("the week day of " + days[i][0] + "." + days[i][1] + "." + year, x.shows(i, 3), want);
            }
        }
        due("29.2.2000", weekDayOf(29, 2, 2000), 1);
        due("1.1.1, a Monday", weekDayOf(1, 1, 1), 0);
        due("31.12.9999, a Friday", weekDayOf(31, 12, 9999), 4);
    }

    private static int weekDayOf(int day, int month, int year) {
        WatchHouse x = Edge.arbors(1);
        x.calendar(0, 3, day, month, year);
        return x.shows(0, 3);
    }

    private static void strikes() {
        says(12, "no such arbor");
        Edge.range("strike(arbor, 0)", 0, 1, 0, () -> Edge.arbors(2), (x, v) -> x.strike(v, 0));
        refuses("strike(0, 0) without arbors", BAD, WatchHouse::new, x -> x.strike(0, 0));
        says(12, "kind is not 0, 1");
        Edge.range("strike(0, kind)", 0, 1, 0, () -> Edge.arbors(2), (x, v) -> x.strike(0, v));
        says(12, BUILDING_ONLY);
        refuses("strike(0, 0)", NO, () -> Edge.going(1), x -> x.strike(0, 0));
        says(12, "WORKS (8) hang on arbors");
        refuses("the 9th work, a strike", FULL, EdgesBuilding::fullOfWorks, x -> x.strike(0, 0));
        says(12, FIRST);
        refuses("strike(2, 0) when it goes", BAD, EdgesBuilding::goingFullOfWorks, x -> x.strike(2, 0));
        refuses("strike(0, 2) when it goes", BAD, EdgesBuilding::goingFullOfWorks, x -> x.strike(0, 2));
        refuses("strike(0, -1) when full", BAD, EdgesBuilding::fullOfWorks, x -> x.strike(0, -1));
        refuses("strike(0, 0) when it goes and is full", NO, EdgesBuilding::goingFullOfWorks, x -> x.strike(0, 0));
        says(12, "A STRIKE shows an hour, 12 at first, has a place, 1 at first, and may be silent.");
        for (int kind = 0; kind < 2; kind++) {
            WatchHouse x = Edge.arbors(1);
            x.strike(0, kind);
            due("its hour", x.shows(0, 0), 12);
            due("its place", x.shows(0, 1), 1);
            due("whether it is silent", x.shows(0, 2), 0);
        }
    }

    private static WatchHouse fullOfChronographs() {
        WatchHouse x = Edge.arbors(1);
        x.escape(0, 1);
        for (int i = 0; i < 4; i++) {
            due("a chronograph", x.chronograph(2), i);
        }
        return x;
    }

    private static WatchHouse goingFullOfChronographs() {
        WatchHouse x = fullOfChronographs();
        x.go();
        return x;
    }

    private static void chronographs() {
        says(13, "kind is not 0 .. 2");
        Edge.range("chronograph(kind)", 0, 2, 0, WatchHouse::new, WatchHouse::chronograph);
        says(13, BUILDING_ONLY);
        refuses("chronograph(0)", NO, () -> Edge.going(1), x -> x.chronograph(0));
        says(13, "CHRONOGRAPHS (4)");
        refuses("the 5th chronograph", FULL, EdgesBuilding::fullOfChronographs, x -> x.chronograph(0));
        due("count(3)", fullOfChronographs().count(3), 4);
        says(13, FIRST);
        refuses("chronograph(3) when it goes", BAD, EdgesBuilding::goingFullOfChronographs, x -> x.chronograph(3));
        refuses("chronograph(-1) when full", BAD, EdgesBuilding::fullOfChronographs, x -> x.chronograph(-1));
        refuses("chronograph(0) when it goes and is full", NO, EdgesBuilding::goingFullOfChronographs, x -> x.chronograph(0));
    }

    // ---- 14

    private static void goTwice() {
        says(14, "it goes");
        refuses("go() when it goes", NO, () -> Edge.going(2), WatchHouse::go);
        refuses("go() when it has gone", NO, () -> Edge.ticked(Due.oneArbor(1), 3), WatchHouse::go);
        says(14, "has no escape arbor");
        refuses("go() without arbors", NO, WatchHouse::new, WatchHouse::go);
        refuses("go() without an escape arbor", NO, () -> Edge.arbors(3), WatchHouse::go);
    }

    private static WatchHouse geared(int... ring) {
        WatchHouse x = Edge.arbors(3);
        x.escape(0, 1);
        x.mesh(0, 1, 1, 2, ring[0]);
        x.mesh(0, 1, 1, 2, ring[1]);
        return x;
    }

    /** An epicycle as link 0 or link 2, which holds with 100 for m. */
    private static WatchHouse withEpicycle(int number, int m) {
        WatchHouse x = Edge.arbors(3);
        x.escape(0, 1);
        if (number == 0) {
            x.epicycle(0, m, 1, 100, 2);
        }
        x.mesh(0, 3, 1, 1, 1);
        x.mesh(0, 2, 2, 1, 1);
        if (number == 2) {
            x.epicycle(0, m, 1, 100, 2);
        }
        return x;
    }

    private static void locked() {
        says(14, "or is LOCKED");
        refuses("go() of a mesh and a ring", NO, () -> geared(0, 1), WatchHouse::go);
        for (int i = 0; i < 3; i += 2) {
            int number = i;
            refuses("go() when link " + i + " does not hold", NO, () -> withEpicycle(number, 101), WatchHouse::go);
            due("go() when it holds", withEpicycle(i, 100).go(), 3);
        }
        due("go() of two meshes that agree", geared(0, 0).go(), 2);
        says(14, "A movement is LOCKED if some link, all of whose arbors are known, does not hold.");
        WatchHouse x = geared(0, 1);
        x.escape(2, 1);
        due("state(9) when their arbors are not known", x.state(9), 0);
        due("go() then", x.go(), 1);
    }

    private static void known() {
        says(14, "how many arbors are known");
        due("go() of one arbor", Edge.going(1).count(6), 1);
        WatchHouse x = Edge.arbors(24);
        x.escape(23, 1);
        due("go() with the escape arbor alone known", x.go(), 1);
        WatchHouse y = Edge.arbors(24);
        y.escape(23, 1);
        for (int i = 0; i < 23; i++) {
            y.mesh(i, 7, i + 1, 7, 0);
        }
        due("go() with all known, told from the last link on", y.go(), 24);
    }

    static void all() {
        newIsBehindBuild();
        newHasNothing();
        memoryIsMadeOnce();
        buildLeavesNothing();
        worksAreNew();
        firstBalance();
        buildTellsRows();
        buildWhenItGoes();
        buildLeavesTheHouse();
        twentyFourArbors();
        arborWhenItGoes();
        meshOfNoArbor();
        meshOfOne();
        meshTeeth();
        meshRing();
        meshWhenItGoes();
        fortyLinks();
        linksNamedFirst();
        epicycleOfNoArbor();
        epicycleOfTwo();
        epicycleTeeth();
        epicycleWhenItGoes();
        escapeOfNoArbor();
        escapeTeeth();
        anotherEscape();
        escapeWhenItGoes();
        fullOfAll();
        balances();
        balanceWhenItGoes();
        barrels();
        barrelWhenItGoes();
        torques();
        torqueWhenItGoes();
        dials();
        calendars();
        days();
        gregorianYears();
        weekDays();
        strikes();
        chronographs();
        goTwice();
        locked();
        known();
    }
}

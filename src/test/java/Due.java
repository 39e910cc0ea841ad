/** What the tests share: they tell each answer that is not as due, and fail at the end if there was one. */
final class Due {
    private static int asked = 0;
    private static int wrong = 0;

    private Due() {
    }

    static void due(int promise, String call, long got, long want) {
        asked++;
        if (got != want) {
            wrong++;
            if (wrong <= 50) {
                System.out.println("promise " + promise + ": " + call + " answered " + got + ", due is " + want);
            }
        }
    }

    static void end() {
        System.out.println(wrong == 0 ? asked + " answers are as due" : wrong + " of " + asked + " answers are not as due");
        if (wrong != 0) {
            System.exit(1);
        }
    }

    /** A movement of one arbor that ticks twice a turn of it, driven hard by a stiff balance; it does not go yet. */
    static WatchHouse oneArbor(int teeth) {
        WatchHouse x = new WatchHouse();
        x.arbor();
        x.escape(0, teeth);
        x.balance(4096, 0, 65536, 10000000);
        x.torque(0, 5000);
        return x;
    }

    /** Runs step by step until so many ticks have been, or a thousand steps are done. */
    static void runToTick(WatchHouse x, int ticks) {
        for (int i = 0; i < 1000 && x.state(0) < ticks; i++) {
            x.run(1);
        }
    }
}

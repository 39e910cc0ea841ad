import java.util.Arrays;

/**
 * What an object answers from here on to a fixed row of calls: first all questions, then calls that bring to light
 * what no question tells (limits, points, balance, settled conflicts). It is used up by that.
 */
final class Probe {
    private final WatchHouse x;
    private long[] answers = new long[4096];
    private int told;

    private Probe(WatchHouse x) {
        this.x = x;
    }

    static long[] answers(WatchHouse x) {
        Probe p = new Probe(x);
        p.movement();
        p.rows();
        p.house();
        p.hiddenHouse();
        p.hiddenMovement();
        return Arrays.copyOf(p.answers, p.told);
    }

    private void tell(long answer) {
        if (told == answers.length) {
            answers = Arrays.copyOf(answers, told * 2);
        }
        answers[told++] = answer;
    }

    private void movement() {
        for (int what = 0; what < 10; what++) {
            tell(x.count(what));
            tell(x.state(what));
            for (int i = 0; i < 8; i++) {
                tell(x.shows(i, what));
                tell(x.hand(i, what));
            }
            for (int i = 0; i < 24 && what < 3; i++) {
                tell(x.speed(i, what));
            }
        }
    }

    private void rows() {
        for (int what = 0; what < 3; what++) {
            for (int i = 0; i < 12; i++) {
                tell(x.tick(i, what));
                tell(x.tick(2990 + i, what));
                tell(x.struck(i, what));
                tell(x.struck(990 + i, what));
            }
        }
    }

    private void house() {
        train();
        tell(x.limit(0));
        tell(x.limit(1));
        tell(x.ways(x.limit(0), x.limit(0) + 1));
        tell(x.ways(x.limit(0) + 2, x.limit(1) - 2));
        for (int what = 0; what < 8; what++) {
            tell(x.verdict(what));
            tell(x.version(what));
            tell(x.never(what));
        }
        for (int i = 0; i < 32; i++) {
            for (int bench = 0; bench < 4; bench++) {
                tell(x.setting(-1 - bench, i));
                tell(x.conflict(bench, i));
            }
            tell(x.setting(x.version(0), i));
            tell(x.setting(0, i));
        }
    }

    private void train() {
        for (int k = 0; k < 3; k++) {
            tell(x.train(k, 0));
            tell(x.train(k, 1));
            tell(x.error(k));
        }
    }

    private void hiddenHouse() {
        tell(x.search(100000, 1, 1));
        train();
        tell(x.search(1, 100000, 1));
        train();
        for (int i = 1; i <= 15; i++) {
            tell(x.rate(i, i));
        }
        for (int bench = 0; bench < 4; bench++) {
            tell(x.merge(bench));
            tell(x.change(bench, bench, 5 + bench));
        }
        tell(x.size(-1, 3, 1, 2));
        tell(x.limit(0));
        house();
        tell(x.chain());
    }

    private void hiddenMovement() {
        for (int k = 0; k <= 8; k++) {
            tell(x.torque(k, 9000 - 1000 * k));
        }
        tell(x.go());
        for (int c = 0; c < 4; c++) {
            tell(x.press(c, 0));
        }
        tell(x.shock(50000));
        tell(x.run(300));
        movement();
        tell(x.wind(100));
        for (int work = 0; work < 8; work++) {
            tell(x.trip(work));
            for (int what = 0; what < 4; what++) {
                tell(x.correct(work, what, 1));
            }
        }
        tell(x.run(100));
        movement();
        tell(x.back(1));
        movement();
        tell(x.build());
    }
}

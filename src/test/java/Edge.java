import java.io.IOException;
import java.nio.file.Files;
import java.nio.file.Path;
import java.util.BitSet;
import java.util.HashSet;
import java.util.Set;
import java.util.function.Supplier;
import java.util.regex.Matcher;
import java.util.regex.Pattern;

/**
 * What the tests of the document's sentences share. Each of them quotes the words that it tests: a quote that the
 * document does not have under that promise or in its terms fails, and so do words of the document that none quotes.
 */
final class Edge {
    static final int BAD = WatchHouse.BAD, NO = WatchHouse.NO, FULL = WatchHouse.FULL, NONE = WatchHouse.NONE;
    static final int LEAST = Integer.MIN_VALUE, MOST = Integer.MAX_VALUE;
    private static final int PROMISES = 45;
    private static final String[] REFUSALS = {"BAD", "NO", "FULL", "NONE"};
    private static final int[] ANSWERS = {BAD, NO, FULL, NONE};

    private static final String DOCUMENT = readDocument();
    /** Headings, the signatures behind them, and the marks that set parts apart: there is nothing in these to test. */
    private static final Pattern HEADINGS = Pattern.compile("## Terms|## Promise \\d+: [\\w ]+`[^`]+`:|======== \\d( GOING\\.| BENCHES\\.)?|```text|```");
    private static final BitSet quotedAt = new BitSet();
    private static final Set<Integer> quoted = new HashSet<>();
    private static final Set<String> answered = new HashSet<>();
    private static int promise;
    private static String sentence = "";

    /** A call with one number that may be wrong. */
    interface Asked {
        long of(WatchHouse x, int v);
    }

    interface Call {
        long of(WatchHouse x);
    }

    private Edge() {
    }

    private static String readDocument() {
        try {
            return Files.readString(Path.of("../shared/DOC.md")).replaceAll("\\s+", " ");
        } catch (IOException e) {
            throw new IllegalStateException(e);
        }
    }

    /** Where a promise begins in the document; 0: the terms that stand ahead of them. */
    private static int startOf(int number) {
        String heading = number == 0 ? "## Terms" : number > PROMISES ? "## Not promised" : "## Promise " + number + ": ";
        return DOCUMENT.indexOf(heading);
    }

    private static String textOf(int number) {
        return DOCUMENT.substring(startOf(number), startOf(number + 1));
    }

    /** Marks the words as quoted where a promise, or the terms (0), have them: whether they do. */
    private static boolean quote(int number, String words) {
        int end = startOf(number + 1);
        boolean found = false;
        for (int at = DOCUMENT.indexOf(words, startOf(number)); at >= 0 && at < end; at = DOCUMENT.indexOf(words, at + 1)) {
            quotedAt.set(at, at + words.length());
            found = true;
        }
        return found;
    }

    /** What is asked from here on belongs to these words of a promise, or of the terms that it uses. */
    static void says(int number, String words) {
        promise = number;
        sentence = words;
        quoted.add(number);
        due("the quote is in the document", quote(number, words) || quote(0, words) ? 1 : 0, 1);
    }

    static void due(String call, long got, long want) {
        answered.add(promise + " " + want);
        Due.due(promise, "\"" + sentence + "\": " + call, got, want);
    }

    /** A call that is refused answers so, and leaves an object that answers all else like one that was not asked. */
    static void refuses(String call, long want, Supplier<WatchHouse> made, Call asked) {
        WatchHouse x = made.get();
        due(call, asked.of(x), want);
        long[] now = Probe.answers(x);
        long[] untouched = Probe.answers(made.get());
        int same = 0;
        while (same < now.length && now[same] == untouched[same]) {
            same++;
        }
        Due.due(promise, "\"" + sentence + "\": " + call + " changed something, seen at answer", same, now.length);
    }

    /** Refused one below the least and one above the greatest, and far beyond; taken at both ends. */
    static void range(String call, int low, int high, long taken, Supplier<WatchHouse> made, Asked asked) {
        outside(call, low, high, made, asked);
        due(call + " with " + low, asked.of(made.get(), low), taken);
        due(call + " with " + high, asked.of(made.get(), high), taken);
    }

    static void outside(String call, int low, int high, Supplier<WatchHouse> made, Asked asked) {
        for (int wrong : new int[] {low - 1, high + 1, LEAST, MOST}) {
            refuses(call + " with " + wrong, BAD, made, x -> asked.of(x, wrong));
        }
    }

    /** A question, which changes nothing anyway: another answer than to wrong numbers at both ends, this one beyond. */
    static void question(String call, int low, int high, long wrong, WatchHouse x, Asked asked) {
        for (int v : new int[] {low - 1, high + 1, LEAST, MOST}) {
            due(call + " with " + v, asked.of(x, v), wrong);
        }
        for (int v = low; v <= high; v += Math.max(1, high - low)) {
            due(call + " with " + v + " is answered", asked.of(x, v) == wrong ? 1 : 0, 0);
        }
    }

    /** Every promise has a sentence, and every refusal that a promise names was due at least once. */
    static void end() {
        for (int number = 1; number <= PROMISES; number++) {
            Due.due(number, "a sentence of it is tested", quoted.contains(number) ? 1 : 0, 1);
            for (int i = 0; i < REFUSALS.length; i++) {
                boolean named = textOf(number).matches(".*\\b" + REFUSALS[i] + "\\b.*");
                if (named) {
                    Due.due(number, REFUSALS[i] + " was due in a test", answered.contains(number + " " + ANSWERS[i]) ? 1 : 0, 1);
                }
            }
        }
        allIsQuoted();
        Due.end();
    }

    private static void allIsQuoted() {
        Matcher heading = HEADINGS.matcher(DOCUMENT);
        while (heading.find()) {
            quotedAt.set(heading.start(), heading.end());
        }
        for (int number = 0; number <= PROMISES; number++) {
            int end = startOf(number + 1);
            int to;
            for (int from = quotedAt.nextClearBit(startOf(number)); from < end; from = quotedAt.nextClearBit(to)) {
                int next = quotedAt.nextSetBit(from);
                to = next < 0 || next > end ? end : next;
                String words = DOCUMENT.substring(from, to);
                Due.due(number, "no test quotes '" + words + "'", words.matches("[\\s.,;:()]*") ? 0 : 1, 0);
            }
        }
    }

    // ---- objects that many tests begin with

    static WatchHouse arbors(int n) {
        WatchHouse x = new WatchHouse();
        for (int i = 0; i < n; i++) {
            x.arbor();
        }
        return x;
    }

    /** So many arbors, of which the first is the escape arbor; it goes. */
    static WatchHouse going(int arbors) {
        WatchHouse x = arbors(arbors);
        x.escape(0, 1);
        x.go();
        return x;
    }

    /** One arbor, two ticks to a turn of it, with this balance and torque; it goes. */
    static WatchHouse started(int stiff, int drag, int gain, int bank, int torque) {
        WatchHouse x = arbors(1);
        x.escape(0, 1);
        x.balance(stiff, drag, gain, bank);
        x.torque(0, torque);
        x.go();
        return x;
    }

    /** It goes, and so many ticks happen. */
    static WatchHouse ticked(WatchHouse x, int ticks) {
        x.go();
        x.shock(50000);
        Due.runToTick(x, ticks);
        return x;
    }

    /**
     * So many ticks, one by each step, of the first balance: x is 1000000 behind odd ones and 0 behind even ones. A tick
     * takes three rows of the book.
     */
    static void beat(WatchHouse x, int ticks) {
        for (int i = 0; i < ticks; i++) {
            int push = x.state(4) < 0 ? 1000000 : -1000000;
            x.shock(push);
            x.shock(push);
            x.run(1);
        }
    }

    /** Rows that change nothing, until the book is full. */
    static WatchHouse fullBook(WatchHouse x) {
        for (int i = x.count(4); i < 2000; i++) {
            x.run(0);
        }
        return x;
    }
}

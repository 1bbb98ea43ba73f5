import java.util.Arrays;
import java.util.function.IntSupplier;

/** Runs of 512 calls, right and wrong ones, against SlowShears; the seeds are fixed. */
public final class RandomRunsTest {
    private static final String[] NAMES = {"want", "bar", "crop", "known", "pieces", "piece", "loss", "cut", "bed",
        "at", "bundle", "cutAt", "blade", "sum", "side"};
    private static final int[] PARAMETERS = {3, 2, 2, 1, 0, 2, 0, 0, 2, 1, 2, 2, 3, 1, 1};
    /** How often a call comes; cuts come often, so that beds fill. */
    private static final int[] WEIGHTS = {2, 3, 4, 4, 2, 6, 4, 40, 2, 4, 5, 6, 6, 2, 3};
    private static final int[] EXTREMES = {Integer.MIN_VALUE, Integer.MIN_VALUE + 1, -1000, -2, -1, 0, 1, 6, 20, 21,
        50, 51, 100, 101, 200, 201, 300, 1000, 1001, Integer.MAX_VALUE - 1, Integer.MAX_VALUE};
    private static final long NO_ANSWER = Long.MIN_VALUE;
    /** Looks near a run's end would take a copy of the whole run for every few of them. */
    private static final int FEW_CALLS = 32;

    private static long state;
    private static final int[] seen = new int[NAMES.length * 5];

    public static void main(String[] args) {
        for (int run = 0; run < 300; run++) {
            state = 1000003L * run + 17;
            oneRun(run);
        }
        everyAnswerWasSeen();
        Due.end();
    }

    private static int below(int bound) {
        state = state * 6364136223846793005L + 1442695040888963407L;
        return (int) ((state >>> 33) % bound);
    }

    private static void oneRun(int run) {
        TapedShears x = new TapedShears();
        SlowShears slow = new SlowShears();
        int longestPiece = run % 3 == 0 ? 8 : run % 3 == 1 ? 60 : 200;
        for (int call = 0; call < 512; call++) {
            int method = call < 3 ? 0 : run % 6 == 0 ? chooseMostlyCuts() : choose();
            int[] a = arguments(method, slow, longestPiece);
            String text = "run " + run + " call " + call + ": " + NAMES[method]
                + Arrays.toString(Arrays.copyOf(a, PARAMETERS[method]));
            same(text, () -> x.call(method, a), slow, method, a);
            if (x.callsLeft() >= FEW_CALLS && (method <= TapedShears.KNOWN || call % 16 == 0)) {
                sameState(text + ", then ", x, slow);
            }
        }
    }

    private static int chooseMostlyCuts() {
        int left = below(100);
        return left < 75 ? 7 : left < 85 ? 1 : choose();
    }

    private static int choose() {
        int total = 0;
        for (int weight : WEIGHTS) {
            total += weight;
        }
        int left = below(total);
        int method = 0;
        while (left >= WEIGHTS[method]) {
            left -= WEIGHTS[method++];
        }
        return method;
    }

    private static int[] arguments(int method, SlowShears slow, int longestPiece) {
        int[] a = likely(method, slow, longestPiece);
        if (below(12) == 0) {
            a[below(3)] = EXTREMES[below(EXTREMES.length)];
        }
        return a;
    }

    private static int[] likely(int method, SlowShears slow, int longestPiece) {
        int low = 1 + below(longestPiece);
        int pieces = (int) slow.call(4, 0, 0, 0);
        switch (method) {
            case 0: return new int[] {low, Math.min(200, low + below(1 + longestPiece / 4)), below(10)};
            case 1: return new int[] {1 + below(200), below(3) * below(18), 0};
            case 2: return new int[] {below(3) == 0 ? below(101) : below(4), below(3) == 0 ? below(101) : below(9), 0};
            case 3: return new int[] {1 + below(200), 0, 0};
            case 8: return new int[] {1 + below(20), 1 + below(200), 0};
            case 9: return new int[] {below(slow.places() + 1), 0, 0};
            case 10: return new int[] {below(slow.wanted() + 1), 1 + below(6), 0};
            case 11: return new int[] {below(slow.cuts() + 1), below(5), 0};
            case 12: return new int[] {below(pieces + 1), 1 + below(1000), below(3)};
            case 13: return new int[] {below(slow.wanted() + 1), 0, 0};
            case 14: return new int[] {below(slow.cuts() + 1), 0, 0};
            default: return new int[] {below(pieces + 1), below(5), 0};
        }
    }

    private static void same(String text, IntSupplier ask, SlowShears slow, int method, int[] a) {
        long due = NO_ANSWER;
        Class<? extends RuntimeException> refusal = null;
        try {
            due = slow.call(method, a[0], a[1], a[2]);
        } catch (RuntimeException thrown) {
            refusal = thrown.getClass();
        }
        seen[method * 5 + kindOf(refusal)]++;
        if (refusal != null) {
            Due.refused(text, refusal, ask::getAsInt);
            return;
        }
        long got = NO_ANSWER;
        try {
            got = ask.getAsInt();
        } catch (RuntimeException thrown) {
            System.out.println(text + " threw " + thrown);
        }
        Due.is(text, got, due);
    }

    private static int kindOf(Class<?> refusal) {
        return refusal == null ? 0
            : refusal == IndexOutOfBoundsException.class ? 1
            : refusal == IllegalStateException.class ? 2
            : refusal == IllegalArgumentException.class ? 3 : 4;
    }

    private static void sameState(String text, TapedShears x, SlowShears slow) {
        int pieces = (int) slow.call(TapedShears.PIECES, 0, 0, 0);
        sameLook(text, x, slow, TapedShears.PIECES, 0, 0);
        sameLook(text, x, slow, TapedShears.LOSS, 0, 0);
        for (int k = 0; k <= pieces; k += 1 + k / 8) {
            for (int what = 0; what < 4; what++) {
                sameLook(text, x, slow, TapedShears.PIECE, k, what);
            }
        }
        for (int place = 0; place <= slow.places(); place++) {
            sameLook(text, x, slow, TapedShears.AT, place, 0);
        }
        for (int c = 0; c <= slow.cuts(); c += 1 + below(12)) {
            for (int what = 0; what < 4; what++) {
                sameLook(text, x, slow, TapedShears.CUT_AT, c, what);
            }
        }
        for (int wanted = 0; wanted <= slow.wanted(); wanted++) {
            sameLook(text, x, slow, TapedShears.SUM, wanted, 0);
        }
    }

    private static void sameLook(String text, TapedShears x, SlowShears slow, int method, int a, int b) {
        String look = text + NAMES[method] + "(" + a + ", " + b + ")";
        same(look, () -> x.look(method, a, b), slow, method, new int[] {a, b, 0});
    }

    /** Each answer and refusal that the document names must have come up, or the runs prove little. */
    private static void everyAnswerWasSeen() {
        int[][] due = {{0, 3, 4}, {0, 3}, {0, 3, 4}, {0, 3, 4}, {0}, {0, 1}, {0}, {0, 2, 4}, {0, 2, 3}, {0, 1},
            {0, 1, 3, 4}, {0, 1}, {0, 1, 3}, {0, 1}, {0, 1}};
        for (int method = 0; method < NAMES.length; method++) {
            for (int kind = 0; kind < 5; kind++) {
                final int k = kind;
                boolean wanted = Arrays.stream(due[method]).anyMatch(d -> d == k);
                Due.holds(NAMES[method] + " kind " + kind + " seen", wanted == (seen[method * 5 + kind] > 0));
            }
        }
    }
}

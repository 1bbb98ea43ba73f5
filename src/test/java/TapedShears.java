import java.util.ArrayList;
import java.util.List;

/**
 * A CutShears that keeps its calls. "What later calls answer is free" behind the 512th one, so no test may
 * ask there: a call beyond them is an error of the test, and what a test looks at beside its calls it asks
 * of a copy.
 */
final class TapedShears {
    static final int WANT = 0;
    static final int BAR = 1;
    static final int CROP = 2;
    static final int KNOWN = 3;
    static final int PIECES = 4;
    static final int PIECE = 5;
    static final int LOSS = 6;
    static final int CUT = 7;
    static final int BED = 8;
    static final int AT = 9;
    static final int BUNDLE = 10;
    static final int CUT_AT = 11;
    static final int BLADE = 12;
    static final int SUM = 13;
    static final int SIDE = 14;
    private static final int MOST_CALLS = 512;

    private final CutShears shears = new CutShears();
    private final List<int[]> tape = new ArrayList<>();
    private TapedShears copy = null;

    int callsLeft() {
        return MOST_CALLS - tape.size();
    }

    int call(int method, int... a) {
        if (callsLeft() < 1) {
            throw new AssertionError("the test asks behind the 512th call");
        }
        int[] call = {method, a.length > 0 ? a[0] : 0, a.length > 1 ? a[1] : 0, a.length > 2 ? a[2] : 0};
        tape.add(call);
        copy = null;
        return ask(shears, call);
    }

    /** Asks a copy, so that it is none of this object's own calls; for calls that change nothing. */
    int look(int method, int... a) {
        if (copy == null || copy.callsLeft() < 1) {
            copy = copied();
        }
        return copy.call(method, a);
    }

    private TapedShears copied() {
        TapedShears other = new TapedShears();
        for (int[] call : tape) {
            other.tape.add(call);
            try {
                ask(other.shears, call);
            } catch (RuntimeException refused) {
                // It was refused here too, and belongs to the calls of the copy as well.
            }
        }
        return other;
    }

    private static int ask(CutShears x, int[] call) {
        int a = call[1];
        int b = call[2];
        int c = call[3];
        switch (call[0]) {
            case WANT: return x.want(a, b, c);
            case BAR: x.bar(a, b); return 0;
            case CROP: x.crop(a, b); return 0;
            case KNOWN: x.known(a); return 0;
            case PIECES: return x.pieces();
            case PIECE: return x.piece(a, b);
            case LOSS: return x.loss();
            case CUT: return x.cut();
            case BED: x.bed(a, b); return 0;
            case AT: return x.at(a);
            case BUNDLE: return x.bundle(a, b);
            case CUT_AT: return x.cutAt(a, b);
            case BLADE: return x.blade(a, b, c);
            case SUM: return x.sum(a);
            case SIDE: return x.side(a);
            default: throw new AssertionError("no such call");
        }
    }

    int want(int low, int high, int rank) {
        return call(WANT, low, high, rank);
    }

    void bar(int length, int error) {
        call(BAR, length, error);
    }

    void crop(int head, int tail) {
        call(CROP, head, tail);
    }

    void known(int length) {
        call(KNOWN, length);
    }

    int pieces() {
        return call(PIECES);
    }

    int piece(int k, int what) {
        return call(PIECE, k, what);
    }

    int loss() {
        return call(LOSS);
    }

    int cut() {
        return call(CUT);
    }

    void bed(int places, int longest) {
        call(BED, places, longest);
    }

    int at(int place) {
        return call(AT, place);
    }

    int bundle(int wanted, int n) {
        return call(BUNDLE, wanted, n);
    }

    int cutAt(int c, int what) {
        return call(CUT_AT, c, what);
    }

    int blade(int k, int perTurn, int part) {
        return call(BLADE, k, perTurn, part);
    }

    int sum(int wanted) {
        return call(SUM, wanted);
    }

    int side(int k) {
        return call(SIDE, k);
    }
}

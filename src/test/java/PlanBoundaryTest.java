/** The boundary cases that promises 1 to 8 name, a test for each sentence. */
public final class PlanBoundaryTest {
    private static final Class<IllegalArgumentException> RANGE = IllegalArgumentException.class;
    private static final Class<UnsupportedOperationException> MEANING = UnsupportedOperationException.class;
    private static final int LEAST = Integer.MIN_VALUE;
    private static final int MOST = Integer.MAX_VALUE;

    public static void main(String[] args) {
        newObjectHasNothing();
        objectsAreApart();
        wantAnswersItsNumber();
        wantOutOfRange();
        wantWithSix();
        wantOutOfRangeWithSix();
        barHasNothingCut();
        barLeavesTheBed();
        barWithTheSameLength();
        barOutOfRange();
        cropWithNothingCut();
        cropOutOfRange();
        cropWithAnotherHead();
        cropWithTheSameHead();
        cropWithCutsOfAnEarlierBarAlone();
        cropThatTheCutsJustFit();
        cropThatTheCutsJustFitWithAnError();
        cropRangeBeforeMeaning();
        cropRefusedKeepsTheCrops();
        knownTakesTheErrorAway();
        knownOutOfRange();
        knownThatTheCutsJustFit();
        knownShorterThanTheCropsWithNothingCut();
        knownRangeBeforeMeaning();
        knownTwice();
        piecesWithCutOnes();
        piecesAtMost();
        pieceIndex();
        pieceIndexOfAnEmptyPlan();
        pieceBehindAHead();
        lossOfNothingAndOfAll();
        Due.end();
    }

    private static int[] row(int... numbers) {
        return numbers;
    }

    /** A bar of 50 with an error of 5, crops of 3 and 2, wanted 10, of which two are cut: 20 of 40. */
    private static TapedShears halfCut() {
        TapedShears x = new TapedShears();
        x.want(10, 10, 0);
        x.bar(50, 5);
        x.crop(3, 2);
        x.cut();
        x.cut();
        return x;
    }

    /** Promise 1: "A bar of 100, nothing wanted, nothing cut." */
    private static void newObjectHasNothing() {
        TapedShears x = new TapedShears();
        Due.plan(x, 100);
        Due.same("a new object", Shown.of(x),
            "pieces 0 loss 100 plan end bed -1 -1 -1 -1 -1 -1 -1 -1 -1 -1 end cuts end sums end side -1");
        Due.turn("cut()", x::cut);
        Due.index("bundle(0, 1)", () -> x.bundle(0, 1));
        Due.index("blade(0, 1, 0)", () -> x.blade(0, 1, 0));
    }

    /** Promise 1, of two objects: nothing is shared between them. */
    private static void objectsAreApart() {
        TapedShears x = halfCut();
        String before = Shown.of(x);
        TapedShears y = new TapedShears();
        Due.plan(y, 100);
        y.want(7, 9, 9);
        y.bed(2, 5);
        y.cut();
        Due.same("the other object", Shown.of(x), before);
    }

    /** Promise 2: "One more wanted length: its number." */
    private static void wantAnswersItsNumber() {
        TapedShears x = new TapedShears();
        Due.is("want", x.want(1, 200, 0), 0);
        Due.range("refused", () -> x.want(0, 200, 0));
        Due.is("a refused one has no number", x.want(1, 200, 0), 1);
        x.bar(100, 0);
        Due.is("the same span again", x.want(1, 200, 0), 2);
        Due.is("want", x.want(200, 200, 9), 3);
        Due.is("want", x.want(1, 1, 0), 4);
        Due.is("want", x.want(199, 200, 9), 5);
    }

    /** Promise 2: "Range: it is not so (low above high)". */
    private static void wantOutOfRange() {
        TapedShears x = halfCut();
        int[][] wrong = {{0, 10, 0}, {-1, 10, 0}, {LEAST, 10, 0}, {10, 201, 0}, {10, MOST, 0}, {201, 201, 0},
            {10, 9, 0}, {200, 1, 0}, {10, 0, 0}, {10, LEAST, 0}, {MOST, MOST, 0}, {MOST, LEAST, 0}, {0, 0, 0},
            {10, 10, -1}, {10, 10, 10}, {10, 10, LEAST}, {10, 10, MOST}};
        for (int[] w : wrong) {
            Due.unchanged(x, 3, 2, RANGE, () -> x.want(w[0], w[1], w[2]));
        }
        Due.is("low is high", x.want(20, 20, 0), 1);
        Due.plan(x, 0, row(0, 3, 10, 1), row(0, 13, 10, 1), row(1, 23, 20, 0));
    }

    /** Promise 2: "meaning: there are 6." */
    private static void wantWithSix() {
        TapedShears x = halfCut();
        for (int number = 1; number < 6; number++) {
            Due.is("want", x.want(150, 150, 0), number);
        }
        Due.unchanged(x, 3, 2, MEANING, () -> x.want(5, 5, 9));
        Due.unchanged(x, 3, 2, MEANING, () -> x.want(1, 200, 0));
        x.bar(50, 0);
        Due.meaning("on another bar", () -> x.want(5, 5, 9));
        Due.plan(x, 5, row(0, 3, 10, 0), row(0, 13, 10, 0), row(0, 23, 10, 0), row(0, 33, 10, 0));
    }

    /** Promise 2: the range is looked at before the meaning. */
    private static void wantOutOfRangeWithSix() {
        TapedShears x = new TapedShears();
        for (int number = 0; number < 6; number++) {
            x.want(10, 10, 0);
        }
        Due.range("low", () -> x.want(0, 10, 0));
        Due.range("high", () -> x.want(10, 201, 0));
        Due.range("low above high", () -> x.want(11, 10, 0));
        Due.range("rank", () -> x.want(10, 10, 10));
    }

    /** Promise 3: "The next bar: nothing of it is cut". */
    private static void barHasNothingCut() {
        TapedShears x = halfCut();
        x.bar(25, 0);
        Due.plan(x, 0, row(0, 3, 10, 0), row(0, 13, 10, 0));
        x.cut();
        x.cut();
        Due.turn("cut()", x::cut);
        x.bar(14, 0);
        Due.plan(x, 9);
        Due.turn("cut()", x::cut);
    }

    /** Promise 3: "(what lies on the bed stays)". */
    private static void barLeavesTheBed() {
        TapedShears x = halfCut();
        x.bar(1, 50);
        Due.is("at(0)", x.at(0), 0);
        Due.is("at(1)", x.at(1), 1);
        Due.is("cutAt(1, 2)", x.cutAt(1, 2), 1);
        Due.turn("bed(10, 200)", () -> x.bed(10, 200));
        Due.is("bundle(0, 2)", x.bundle(0, 2), 1);
    }

    /** Promise 3: a bar of the same numbers is another bar. */
    private static void barWithTheSameLength() {
        TapedShears x = halfCut();
        x.bar(50, 5);
        Due.plan(x, 0, row(0, 3, 10, 0), row(0, 13, 10, 0), row(0, 23, 10, 0), row(0, 33, 10, 0));
        Due.is("sum(0)", x.sum(0), 20);
    }

    /** Promise 3: "Range: they are not so." */
    private static void barOutOfRange() {
        TapedShears x = halfCut();
        int[][] wrong = {{0, 0}, {-1, 0}, {201, 0}, {LEAST, 0}, {MOST, 0}, {50, -1}, {50, 51}, {50, LEAST}, {50, MOST},
            {0, 51}};
        for (int[] w : wrong) {
            Due.unchanged(x, 3, 2, RANGE, () -> x.bar(w[0], w[1]));
        }
        x.crop(3, 0);
        x.bar(200, 50);
        Due.is("loss()", x.loss(), 7);
        x.bar(1, 0);
        Due.is("loss()", x.loss(), 0);
    }

    /** Promise 4: "The crops.": with nothing cut they may leave no room at all. */
    private static void cropWithNothingCut() {
        TapedShears x = new TapedShears();
        x.want(10, 10, 0);
        x.bar(1, 50);
        x.crop(100, 100);
        Due.plan(x, 0);
        x.crop(0, 0);
        Due.plan(x, 0);
        x.bar(20, 0);
        x.crop(10, 0);
        Due.plan(x, 0, row(0, 10, 10, 0));
        x.crop(11, 0);
        Due.plan(x, 9);
        x.crop(0, 11);
        Due.plan(x, 9);
    }

    /** Promise 4: "Range: they are not so". */
    private static void cropOutOfRange() {
        TapedShears x = halfCut();
        int[][] wrong = {{-1, 2}, {101, 2}, {LEAST, 2}, {MOST, 2}, {3, -1}, {3, 101}, {3, LEAST}, {3, MOST}, {-1, -1},
            {101, 101}};
        for (int[] w : wrong) {
            Due.unchanged(x, 3, 2, RANGE, () -> x.crop(w[0], w[1]));
        }
    }

    /** Promise 4: "meaning: the head is another one and something is cut". */
    private static void cropWithAnotherHead() {
        TapedShears x = halfCut();
        for (int head : row(0, 2, 4, 100)) {
            Due.unchanged(x, 3, 2, MEANING, () -> x.crop(head, 2));
            Due.unchanged(x, 3, 2, MEANING, () -> x.crop(head, 0));
        }
        TapedShears y = new TapedShears();
        y.want(10, 10, 0);
        y.crop(5, 0);
        y.crop(6, 0);
        y.cut();
        Due.unchanged(y, 6, 0, MEANING, () -> y.crop(5, 0));
        Due.unchanged(y, 6, 0, MEANING, () -> y.crop(7, 0));
    }

    /** Promise 4: the same head is none of another. */
    private static void cropWithTheSameHead() {
        TapedShears x = halfCut();
        String before = Shown.of(x);
        x.crop(3, 2);
        Due.same("the same crops", Shown.of(x), before);
        x.crop(3, 12);
        Due.plan(x, 0, row(0, 3, 10, 1), row(0, 13, 10, 1), row(0, 23, 10, 0));
        x.crop(3, 0);
        Due.plan(x, 2, row(0, 3, 10, 1), row(0, 13, 10, 1), row(0, 23, 10, 0), row(0, 33, 10, 0));
    }

    /** Promise 4: what was cut of an earlier bar binds neither the head nor the tail of the next one. */
    private static void cropWithCutsOfAnEarlierBarAlone() {
        TapedShears x = halfCut();
        x.bar(50, 5);
        x.crop(4, 31);
        Due.plan(x, 0, row(0, 4, 10, 0));
        x.crop(100, 100);
        Due.plan(x, 0);
    }

    /** Promise 4: "or the cuts would not fit any more." */
    private static void cropThatTheCutsJustFit() {
        TapedShears x = new TapedShears();
        x.want(10, 10, 0);
        x.bar(60, 0);
        x.cut();
        x.cut();
        Due.unchanged(x, 0, 0, MEANING, () -> x.crop(0, 41));
        Due.unchanged(x, 0, 0, MEANING, () -> x.crop(0, 100));
        x.crop(0, 40);
        Due.plan(x, 0, row(0, 0, 10, 1), row(0, 10, 10, 1));
        x.crop(0, 39);
        Due.plan(x, 1, row(0, 0, 10, 1), row(0, 10, 10, 1));
    }

    /** Promise 4, the same with an error and a head: the cuts must fit the room that is planned on. */
    private static void cropThatTheCutsJustFitWithAnError() {
        TapedShears x = halfCut();
        Due.unchanged(x, 3, 2, MEANING, () -> x.crop(3, 23));
        x.crop(3, 22);
        Due.plan(x, 0, row(0, 3, 10, 1), row(0, 13, 10, 1));
        Due.unchanged(x, 3, 22, MEANING, () -> x.crop(3, 23));
        x.known(50);
        x.crop(3, 27);
        Due.plan(x, 0, row(0, 3, 10, 1), row(0, 13, 10, 1));
        Due.unchanged(x, 3, 27, MEANING, () -> x.crop(3, 28));
    }

    /** Promise 4: the range is looked at before the meaning. */
    private static void cropRangeBeforeMeaning() {
        TapedShears x = halfCut();
        Due.range("another head, a tail out of range", () -> x.crop(4, 101));
        Due.range("a head out of range, the cuts would not fit", () -> x.crop(101, 100));
        Due.range("a head below 0", () -> x.crop(-1, 100));
    }

    /** Promise 4: crops that were refused do not come back when another call has the rest planned anew. */
    private static void cropRefusedKeepsTheCrops() {
        int[][] refused = {{3, 23}, {4, 2}, {3, 101}, {101, 2}, {0, 0}};
        for (int[] crops : refused) {
            TapedShears x = halfCut();
            try {
                x.crop(crops[0], crops[1]);
                Due.holds("crop is refused", false);
            } catch (IllegalArgumentException | UnsupportedOperationException due) {
                x.want(15, 15, 0);
                x.known(40);
            }
            Due.plan(x, 0, row(0, 3, 10, 1), row(0, 13, 10, 1), row(1, 23, 15, 0));
            x.bar(15, 0);
            Due.plan(x, 0, row(0, 3, 10, 0));
        }
    }

    /** Promise 5: "The length is known: the error is 0." */
    private static void knownTakesTheErrorAway() {
        TapedShears x = halfCut();
        x.known(50);
        Due.plan(x, 5, row(0, 3, 10, 1), row(0, 13, 10, 1), row(0, 23, 10, 0), row(0, 33, 10, 0));
        x.crop(3, 0);
        Due.is("the error does not come back", x.loss(), 7);
        TapedShears y = new TapedShears();
        y.known(100);
        Due.plan(y, 100);
        y.bar(100, 50);
        Due.plan(y, 50);
        y.known(1);
        Due.plan(y, 1);
        y.known(200);
        Due.plan(y, 200);
    }

    /** Promise 5: "Range: it". */
    private static void knownOutOfRange() {
        TapedShears x = halfCut();
        for (int wrong : row(0, -1, 201, LEAST, MOST)) {
            Due.unchanged(x, 3, 2, RANGE, () -> x.known(wrong));
        }
        x.known(200);
        Due.is("pieces()", x.pieces(), 19);
        Due.is("loss()", x.loss(), 5);
    }

    /** Promise 5: "meaning: the cuts would not fit any more." */
    private static void knownThatTheCutsJustFit() {
        TapedShears x = halfCut();
        Due.unchanged(x, 3, 2, MEANING, () -> x.known(24));
        Due.unchanged(x, 3, 2, MEANING, () -> x.known(1));
        x.known(25);
        Due.plan(x, 0, row(0, 3, 10, 1), row(0, 13, 10, 1));
        Due.unchanged(x, 3, 2, MEANING, () -> x.known(24));
        x.known(26);
        Due.plan(x, 1, row(0, 3, 10, 1), row(0, 13, 10, 1));
    }

    /** Promise 5: with nothing cut there is nothing that would not fit. */
    private static void knownShorterThanTheCropsWithNothingCut() {
        TapedShears x = halfCut();
        x.bar(50, 5);
        x.known(4);
        Due.plan(x, 0);
        x.known(1);
        Due.plan(x, 0);
        x.known(15);
        Due.plan(x, 0, row(0, 3, 10, 0));
    }

    /** Promise 5: the range is looked at before the meaning. */
    private static void knownRangeBeforeMeaning() {
        TapedShears x = halfCut();
        Due.range("known(0)", () -> x.known(0));
        Due.range("known(-1)", () -> x.known(-1));
    }

    /** Promise 5: the length may become known again, longer or shorter. */
    private static void knownTwice() {
        TapedShears x = halfCut();
        x.known(35);
        Due.plan(x, 0, row(0, 3, 10, 1), row(0, 13, 10, 1), row(0, 23, 10, 0));
        x.known(34);
        Due.plan(x, 9, row(0, 3, 10, 1), row(0, 13, 10, 1));
        x.known(45);
        Due.plan(x, 0, row(0, 3, 10, 1), row(0, 13, 10, 1), row(0, 23, 10, 0), row(0, 33, 10, 0));
    }

    /** Promise 6: "How many pieces the plan has (cut ones with them)." */
    private static void piecesWithCutOnes() {
        TapedShears x = halfCut();
        Due.is("pieces()", x.pieces(), 4);
        x.cut();
        x.cut();
        Due.is("all are cut", x.pieces(), 4);
        x.known(45);
        Due.is("all are cut and planned anew", x.pieces(), 4);
        x.bar(14, 0);
        Due.is("no room for one", x.pieces(), 0);
        x.bar(15, 0);
        Due.is("room for one", x.pieces(), 1);
    }

    /** Promise 6, the most that can be: a bar of 200 in steps of one, cut to its end. */
    private static void piecesAtMost() {
        TapedShears x = new TapedShears();
        x.want(1, 1, 0);
        x.bar(200, 0);
        Due.is("pieces()", x.pieces(), 200);
        for (int k = 0; k < 200; k++) {
            x.cut();
        }
        Due.is("pieces()", x.pieces(), 200);
        Due.piece(x, 199, 0, 199, 1, 1);
        Due.unchanged(x, 0, 0, MEANING, () -> x.known(199));
        Due.unchanged(x, 0, 0, MEANING, () -> x.crop(0, 1));
        x.known(200);
        Due.is("pieces()", x.pieces(), 200);
        Due.is("loss()", x.loss(), 0);
    }

    /** Promise 7: "Index: no such piece or what." */
    private static void pieceIndex() {
        TapedShears x = halfCut();
        for (int what = 0; what < 4; what++) {
            int w = what;
            for (int k : row(-1, 4, LEAST, MOST)) {
                Due.index("piece(" + k + ", " + w + ")", () -> x.piece(k, w));
            }
        }
        for (int k = 0; k < 4; k++) {
            int p = k;
            for (int what : row(-1, 4, LEAST, MOST)) {
                Due.index("piece(" + p + ", " + what + ")", () -> x.piece(p, what));
            }
        }
        Due.index("both", () -> x.piece(4, 4));
        x.bar(25, 0);
        Due.index("of the bar before", () -> x.piece(2, 0));
        Due.is("piece(1, 3)", x.piece(1, 3), 0);
    }

    /** Promise 7 of a plan without a piece. */
    private static void pieceIndexOfAnEmptyPlan() {
        TapedShears x = new TapedShears();
        for (int what : row(-1, 0, 1, 2, 3, 4)) {
            Due.index("nothing is wanted", () -> x.piece(0, what));
        }
        x.want(101, 200, 0);
        Due.index("nothing fits", () -> x.piece(0, 0));
        Due.index("nothing fits", () -> x.piece(-1, 0));
    }

    /** Promise 7: "1 where it begins (from the bar's begin)": behind the greatest head. */
    private static void pieceBehindAHead() {
        TapedShears x = new TapedShears();
        x.want(99, 99, 0);
        x.want(1, 1, 0);
        x.bar(200, 0);
        x.crop(100, 0);
        Due.plan(x, 0, row(0, 100, 99, 0), row(1, 199, 1, 0));
        x.crop(0, 100);
        Due.plan(x, 0, row(0, 0, 99, 0), row(1, 99, 1, 0));
    }

    /** Promise 8: "The loss.": none, one step, the whole room. */
    private static void lossOfNothingAndOfAll() {
        TapedShears x = new TapedShears();
        x.bar(200, 0);
        Due.is("nothing is wanted", x.loss(), 200);
        x.want(100, 100, 0);
        Due.is("loss()", x.loss(), 0);
        x.bar(199, 0);
        Due.is("loss()", x.loss(), 99);
        x.cut();
        Due.is("a cut does not change it", x.loss(), 99);
        x.known(101);
        Due.is("loss()", x.loss(), 1);
        x.known(100);
        Due.is("loss()", x.loss(), 0);
    }
}

/** The boundary cases that the document's "Terms" name, a test for each sentence or part of one. */
public final class TermsBoundaryTest {
    public static void main(String[] args) {
        lengthsOfOneToTwoHundredSteps();
        atMostSixWantedLengths();
        spansFromLowToHigh();
        ranksOfZeroToNine();
        barAtFirst();
        errorsOfZeroToFifty();
        cropsOfZeroToAHundred();
        roomBelowZeroIsZero();
        roomJustTooShortForAPiece();
        piecesFromTheHeadCropOn();
        leastLossFirst();
        greatestRanksNext();
        fewestPiecesNext();
        lowestWantedNext();
        shortestNext();
        thenTheSecondPiece();
        onlyCutPiecesAreMade();
        plannedAnewBehindTheCuts();
        nothingLeftBehindTheCuts();
        cutNumbersOverAllBars();
        bedAtFirst();
        lowestFreePlace();
        noPlaceFree();
        tooLongForThePlaces();
        bundleWithAsMany();
        bundleFirstCutFirst();
        Due.end();
    }

    /** A new object with a bar without error that wants spans {low, high, rank}. */
    private static TapedShears on(int length, int[]... spans) {
        TapedShears x = new TapedShears();
        x.bar(length, 0);
        for (int[] span : spans) {
            x.want(span[0], span[1], span[2]);
        }
        return x;
    }

    private static int[] row(int... numbers) {
        return numbers;
    }

    /** "Lengths are told in STEPS (1 .. 200 each)." */
    private static void lengthsOfOneToTwoHundredSteps() {
        TapedShears x = new TapedShears();
        for (int wrong : row(0, 201, -1, Integer.MIN_VALUE, Integer.MAX_VALUE)) {
            Due.range("want, low " + wrong, () -> x.want(wrong, 200, 0));
            Due.range("want, high " + wrong, () -> x.want(1, wrong, 0));
            Due.range("bar " + wrong, () -> x.bar(wrong, 0));
            Due.range("known " + wrong, () -> x.known(wrong));
            Due.range("bed, longest " + wrong, () -> x.bed(10, wrong));
        }
        for (int right : row(1, 200)) {
            TapedShears y = on(right, row(right, right, 0));
            Due.plan(y, 0, row(0, 0, right, 0));
            y.known(right);
            y.bed(10, right);
            Due.is("cut()", y.cut(), 0);
            Due.is("sum(0)", y.sum(0), right);
        }
    }

    /** "WANTED lengths 0, 1, .. (at most 6)" */
    private static void atMostSixWantedLengths() {
        TapedShears x = new TapedShears();
        for (int number = 0; number < 6; number++) {
            int next = number;
            Due.index("sum", () -> x.sum(next));
            Due.index("bundle", () -> x.bundle(next, 1));
            Due.is("want", x.want(101 + number, 150, 0), number);
            Due.is("sum", x.sum(number), 0);
            Due.meaning("bundle", () -> x.bundle(next, 1));
        }
        Due.unchanged(x, 0, 0, UnsupportedOperationException.class, () -> x.want(100, 100, 9));
        Due.index("sum(6)", () -> x.sum(6));
        x.bar(106, 0);
        Due.plan(x, 0, row(0, 0, 106, 0));
    }

    /** "have a span (LOW to HIGH)": both ends belong to it. */
    private static void spansFromLowToHigh() {
        TapedShears x = on(30, row(31, 34, 0));
        Due.plan(x, 30);
        x.bar(31, 0);
        Due.plan(x, 0, row(0, 0, 31, 0));
        x.bar(34, 0);
        Due.plan(x, 0, row(0, 0, 34, 0));
        x.bar(35, 0);
        Due.plan(x, 1, row(0, 0, 34, 0));
        x.bar(61, 0);
        Due.plan(x, 27, row(0, 0, 34, 0));
        x.bar(62, 0);
        Due.plan(x, 0, row(0, 0, 31, 0), row(0, 31, 31, 0));
        Due.range("low above high by one", () -> x.want(31, 30, 0));
        Due.is("low is high", x.want(30, 30, 0), 1);
    }

    /** "a RANK (0 .. 9)" */
    private static void ranksOfZeroToNine() {
        TapedShears x = on(50, row(50, 50, 8), row(50, 50, 0));
        for (int wrong : row(-1, 10, Integer.MIN_VALUE, Integer.MAX_VALUE)) {
            Due.unchanged(x, 0, 0, IllegalArgumentException.class, () -> x.want(50, 50, wrong));
        }
        Due.is("want(50, 50, 9)", x.want(50, 50, 9), 2);
        Due.plan(x, 0, row(2, 0, 50, 0));
    }

    /** "A BAR has a length (100 at first), an ERROR (0 at first), a HEAD and a TAIL crop (0 at first)." */
    private static void barAtFirst() {
        TapedShears x = new TapedShears();
        x.want(100, 100, 0);
        Due.plan(x, 0, row(0, 0, 100, 0));
        TapedShears y = new TapedShears();
        y.want(101, 101, 0);
        Due.plan(y, 100);
    }

    /** "an ERROR (0 .. 50)" */
    private static void errorsOfZeroToFifty() {
        TapedShears x = on(100, row(50, 50, 0));
        for (int wrong : row(-1, 51, Integer.MIN_VALUE, Integer.MAX_VALUE)) {
            Due.unchanged(x, 0, 0, IllegalArgumentException.class, () -> x.bar(100, wrong));
        }
        x.bar(100, 50);
        Due.plan(x, 0, row(0, 0, 50, 0));
        x.bar(99, 50);
        Due.plan(x, 49);
        x.bar(50, 0);
        Due.plan(x, 0, row(0, 0, 50, 0));
    }

    /** "a HEAD and a TAIL crop (0 .. 100 each)" */
    private static void cropsOfZeroToAHundred() {
        TapedShears x = on(200, row(40, 40, 0));
        for (int wrong : row(-1, 101, Integer.MIN_VALUE, Integer.MAX_VALUE)) {
            Due.unchanged(x, 0, 0, IllegalArgumentException.class, () -> x.crop(wrong, 0));
            Due.unchanged(x, 0, 0, IllegalArgumentException.class, () -> x.crop(0, wrong));
        }
        x.crop(100, 0);
        Due.plan(x, 20, row(0, 100, 40, 0), row(0, 140, 40, 0));
        x.crop(0, 100);
        Due.plan(x, 20, row(0, 0, 40, 0), row(0, 40, 40, 0));
        x.crop(100, 100);
        Due.plan(x, 0);
        x.crop(60, 100);
        Due.plan(x, 0, row(0, 60, 40, 0));
    }

    /** "the bar's length less the error, head and tail (0 when that is below 0)" */
    private static void roomBelowZeroIsZero() {
        TapedShears x = on(10, row(1, 1, 0));
        x.bar(10, 9);
        Due.plan(x, 0, row(0, 0, 1, 0));
        x.bar(10, 10);
        Due.plan(x, 0);
        x.bar(10, 11);
        Due.plan(x, 0);
        x.bar(1, 50);
        x.crop(100, 100);
        Due.plan(x, 0);
        Due.turn("cut() of no room", x::cut);
        x.bar(10, 4);
        x.crop(2, 3);
        Due.plan(x, 0, row(0, 2, 1, 0));
        x.crop(3, 3);
        Due.plan(x, 0);
        x.crop(3, 4);
        Due.plan(x, 0);
    }

    /** "the rest behind the last one is the LOSS": with no piece that fits it is all of the room. */
    private static void roomJustTooShortForAPiece() {
        TapedShears x = on(20, row(21, 200, 9));
        Due.plan(x, 20);
        x.crop(3, 4);
        Due.plan(x, 13);
        x.known(28);
        Due.plan(x, 0, row(0, 3, 21, 0));
        x.known(27);
        Due.plan(x, 20);
    }

    /** "pieces one behind the other from the head crop on" */
    private static void piecesFromTheHeadCropOn() {
        TapedShears x = on(101, row(20, 20, 0));
        x.crop(100, 0);
        Due.plan(x, 1);
        x.crop(41, 0);
        Due.plan(x, 0, row(0, 41, 20, 0), row(0, 61, 20, 0), row(0, 81, 20, 0));
        x.crop(0, 41);
        Due.plan(x, 0, row(0, 0, 20, 0), row(0, 20, 20, 0), row(0, 40, 20, 0));
    }

    /** "THE BEST has the least loss": one step outweighs the greatest ranks and the fewest pieces. */
    private static void leastLossFirst() {
        Due.plan(on(100, row(99, 99, 9), row(50, 50, 0)), 0, row(1, 0, 50, 0), row(1, 50, 50, 0));
        Due.is("pieces()", on(199, row(1, 1, 0), row(199, 199, 0), row(2, 2, 9)).pieces(), 100);
        Due.plan(on(199, row(2, 2, 9), row(199, 199, 0)), 0, row(1, 0, 199, 0));
    }

    /** "of these the greatest sum of ranks": one rank outweighs the fewest pieces. */
    private static void greatestRanksNext() {
        Due.plan(on(100, row(100, 100, 1), row(50, 50, 1)), 0, row(1, 0, 50, 0), row(1, 50, 50, 0));
        Due.plan(on(30, row(30, 30, 9), row(10, 10, 3)), 0, row(0, 0, 30, 0));
        Due.is("pieces()", on(200, row(200, 200, 8), row(1, 1, 9)).pieces(), 200);
        Due.is("pieces()", on(200, row(200, 200, 0), row(1, 1, 0), row(101, 101, 1)).pieces(), 100);
    }

    /** "of these the fewest pieces" */
    private static void fewestPiecesNext() {
        Due.plan(on(100, row(50, 50, 1), row(100, 100, 2)), 0, row(1, 0, 100, 0));
        Due.plan(on(100, row(1, 60, 0)), 0, row(0, 0, 40, 0), row(0, 40, 60, 0));
        Due.plan(on(200, row(1, 1, 0), row(200, 200, 0)), 0, row(1, 0, 200, 0));
    }

    /** "of these the first one (the first piece of the lowest wanted length": also of two equal ones. */
    private static void lowestWantedNext() {
        Due.plan(on(100, row(60, 60, 3), row(40, 40, 3)), 0, row(0, 0, 60, 0), row(1, 60, 40, 0));
        Due.plan(on(100, row(40, 40, 3), row(60, 60, 3)), 0, row(0, 0, 40, 0), row(1, 40, 60, 0));
        Due.plan(on(50, row(50, 50, 4), row(50, 50, 4)), 0, row(0, 0, 50, 0));
        Due.plan(on(50, row(50, 50, 4), row(50, 50, 5)), 0, row(1, 0, 50, 0));
    }

    /** "of these the shortest": only behind the lowest wanted length. */
    private static void shortestNext() {
        Due.plan(on(100, row(40, 70, 0)), 0, row(0, 0, 40, 0), row(0, 40, 60, 0));
        Due.plan(on(100, row(50, 60, 0), row(40, 50, 0)), 0, row(0, 0, 50, 0), row(0, 50, 50, 0));
        Due.plan(on(90, row(50, 60, 0), row(40, 50, 0)), 0, row(0, 0, 50, 0), row(1, 50, 40, 0));
    }

    /** "then the second one, ..)" */
    private static void thenTheSecondPiece() {
        Due.plan(on(101, row(30, 40, 0)), 0, row(0, 0, 30, 0), row(0, 30, 31, 0), row(0, 61, 40, 0));
        Due.plan(on(60, row(20, 20, 1), row(20, 20, 1)), 0,
            row(0, 0, 20, 0), row(0, 20, 20, 0), row(0, 40, 20, 0));
        Due.plan(on(60, row(10, 10, 0), row(20, 20, 0), row(30, 30, 0)), 0,
            row(2, 0, 30, 0), row(2, 30, 30, 0));
        Due.plan(on(55, row(15, 15, 0), row(20, 20, 0), row(25, 25, 0)), 0,
            row(0, 0, 15, 0), row(0, 15, 15, 0), row(2, 30, 25, 0));
    }

    /** "Only CUT pieces are made: cut() takes the plan's first piece that is not cut." */
    private static void onlyCutPiecesAreMade() {
        TapedShears x = on(100, row(60, 60, 1), row(40, 40, 1));
        Due.is("sum(0)", x.sum(0), 0);
        Due.is("at(0)", x.at(0), -1);
        Due.index("cutAt(0, 0)", () -> x.cutAt(0, 0));
        x.cut();
        Due.plan(x, 0, row(0, 0, 60, 1), row(1, 60, 40, 0));
        Due.is("sum(0)", x.sum(0), 60);
        Due.is("sum(1)", x.sum(1), 0);
        x.cut();
        Due.plan(x, 0, row(0, 0, 60, 1), row(1, 60, 40, 1));
        Due.is("cutAt(1, 0)", x.cutAt(1, 0), 1);
    }

    /** "what is not cut is planned anew on what is left behind the cuts": the cut ones stay, come what may. */
    private static void plannedAnewBehindTheCuts() {
        TapedShears x = on(100, row(40, 40, 0));
        x.cut();
        x.want(50, 50, 9);
        Due.plan(x, 10, row(0, 0, 40, 1), row(1, 40, 50, 0));
        x.crop(0, 20);
        Due.plan(x, 0, row(0, 0, 40, 1), row(0, 40, 40, 0));
        x.known(110);
        Due.plan(x, 0, row(0, 0, 40, 1), row(1, 40, 50, 0));
        x.cut();
        x.known(200);
        Due.plan(x, 0, row(0, 0, 40, 1), row(1, 40, 50, 1), row(0, 90, 40, 0), row(1, 130, 50, 0));
    }

    /** The same sentence with nothing left, or with too little for a piece. */
    private static void nothingLeftBehindTheCuts() {
        TapedShears x = on(100, row(40, 40, 0));
        x.cut();
        x.crop(0, 60);
        Due.plan(x, 0, row(0, 0, 40, 1));
        Due.turn("cut()", x::cut);
        x.crop(0, 21);
        Due.plan(x, 39, row(0, 0, 40, 1));
        Due.turn("cut()", x::cut);
        x.crop(0, 20);
        Due.plan(x, 0, row(0, 0, 40, 1), row(0, 40, 40, 0));
        Due.is("cut()", x.cut(), 1);
    }

    /** "A cut has its number, 0, 1, .. over all bars." */
    private static void cutNumbersOverAllBars() {
        TapedShears x = on(50, row(50, 50, 0));
        for (int c = 0; c < 4; c++) {
            x.bar(50, 0);
            Due.is("cut()", x.cut(), c);
            Due.is("at()", x.at(c), c);
            int next = c + 1;
            Due.index("cutAt()", () -> x.cutAt(next, 0));
        }
    }

    /** "THE BED has PLACES (10 at first), each for pieces of up to a LONGEST (200)." */
    private static void bedAtFirst() {
        TapedShears x = on(200, row(200, 200, 0), row(1, 1, 0));
        Due.is("cut() of 200 steps", x.cut(), 0);
        x.bar(10, 0);
        for (int place = 1; place < 10; place++) {
            Due.is("cut()", x.cut(), place);
        }
        Due.is("the eleventh", x.cut(), -1);
        Due.is("at(9)", x.at(9), 9);
        Due.index("at(10)", () -> x.at(10));
    }

    /** "a piece that is cut lies at the lowest free place": places that came free are used again. */
    private static void lowestFreePlace() {
        TapedShears x = on(100, row(10, 10, 0), row(45, 45, 0));
        x.bed(3, 200);
        Due.plan(x, 0, row(0, 0, 10, 0), row(1, 10, 45, 0), row(1, 55, 45, 0));
        Due.is("cut()", x.cut(), 0);
        Due.is("cut()", x.cut(), 1);
        Due.is("cut()", x.cut(), 2);
        x.bar(20, 0);
        x.bundle(1, 1);
        Due.is("the middle one is free", x.cut(), 1);
        x.bundle(1, 1);
        x.bundle(0, 1);
        Due.is("the first and the last are free", x.cut(), 0);
        Due.is("at(0)", x.at(0), 4);
        Due.is("at(1)", x.at(1), 3);
        Due.is("at(2)", x.at(2), -1);
    }

    /** "with none free .. it goes to the side (no place)" */
    private static void noPlaceFree() {
        TapedShears x = on(100, row(1, 1, 0));
        x.bed(1, 200);
        Due.is("cut()", x.cut(), 0);
        Due.is("cut()", x.cut(), -1);
        Due.is("at(0)", x.at(0), 0);
        Due.is("cutAt(1, 2)", x.cutAt(1, 2), -1);
        x.bundle(0, 1);
        Due.is("what is at the side stays there", x.at(0), -1);
        Due.is("cut()", x.cut(), 0);
        Due.is("side(0)", x.side(0), 1);
        Due.is("side(1)", x.side(1), -1);
    }

    /** "or too long, it goes to the side": by one step, though places are free. */
    private static void tooLongForThePlaces() {
        TapedShears x = on(60, row(19, 21, 0));
        x.bed(20, 20);
        Due.plan(x, 0, row(0, 0, 19, 0), row(0, 19, 20, 0), row(0, 39, 21, 0));
        Due.is("shorter by one", x.cut(), 0);
        Due.is("as long", x.cut(), 1);
        Due.is("longer by one", x.cut(), -1);
        Due.is("at(2)", x.at(2), -1);
        Due.is("side(0)", x.side(0), 2);
        x.bar(19, 0);
        Due.is("a short one behind it", x.cut(), 2);
    }

    /** "takes so many pieces of it from the bed .. when there are as many" */
    private static void bundleWithAsMany() {
        TapedShears x = on(100, row(20, 20, 0), row(40, 40, 0));
        x.bed(4, 200);
        Due.plan(x, 0, row(0, 0, 20, 0), row(1, 20, 40, 0), row(1, 60, 40, 0));
        x.cut();
        x.cut();
        x.cut();
        Due.unchanged(x, 0, 0, UnsupportedOperationException.class, () -> x.bundle(1, 3));
        Due.unchanged(x, 0, 0, UnsupportedOperationException.class, () -> x.bundle(0, 2));
        Due.is("as many as there are", x.bundle(1, 2), 1);
        Due.is("at(0), another length", x.at(0), 0);
        Due.is("at(1)", x.at(1), -1);
        Due.is("at(2)", x.at(2), -1);
        Due.meaning("none is there", () -> x.bundle(1, 1));
    }

    /** "(the first cut first)": by the number of the cut, not by the place, and over bars. */
    private static void bundleFirstCutFirst() {
        TapedShears x = on(4, row(1, 1, 0));
        x.bed(2, 200);
        x.cut();
        x.cut();
        x.bundle(0, 1);
        x.bar(1, 0);
        Due.is("cut 2 lies below cut 1", x.cut(), 0);
        Due.is("bundle(0, 1)", x.bundle(0, 1), 2);
        Due.is("at(0)", x.at(0), 2);
        Due.is("at(1)", x.at(1), -1);
        Due.is("cutAt(1, 2)", x.cutAt(1, 2), -2);
        Due.is("cutAt(2, 2)", x.cutAt(2, 2), 0);
    }
}

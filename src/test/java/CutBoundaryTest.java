/** The boundary cases that promises 9 to 16 name, a test for each sentence. */
public final class CutBoundaryTest {
    private static final Class<IndexOutOfBoundsException> INDEX = IndexOutOfBoundsException.class;
    private static final Class<IllegalStateException> TURN = IllegalStateException.class;
    private static final Class<IllegalArgumentException> RANGE = IllegalArgumentException.class;
    private static final Class<UnsupportedOperationException> MEANING = UnsupportedOperationException.class;
    private static final int LEAST = Integer.MIN_VALUE;
    private static final int MOST = Integer.MAX_VALUE;

    public static void main(String[] args) {
        cutAnswersThePlace();
        cutWithNoneLeft();
        cutThreeHundred();
        cutTurnBeforeMeaning();
        bedMustBeEmpty();
        bedOfSideCutsIsEmpty();
        bedOutOfRange();
        bedTurnBeforeRange();
        bedSmallestAndGreatest();
        bedThatGrowsAndShrinks();
        atWithNothingThere();
        atNoSuchPlace();
        bundleCountsBundles();
        bundleNoSuchLength();
        bundleOutOfRange();
        bundleOfOneAndOfTwenty();
        bundleNotSoMany();
        bundleIndexBeforeRangeBeforeMeaning();
        cutAtEachState();
        cutAtNoSuchCut();
        cutAtNoSuchWhat();
        bladeAtWholeTurns();
        bladeRoundsAHalfUp();
        bladeNearAWholeTurn();
        bladeNoSuchPieceOrPart();
        bladeOutOfRange();
        bladeIndexBeforeRange();
        sumOfNothingCut();
        sumAtMost();
        sumNoSuchLength();
        sideWithNotSoMany();
        sideBelowZero();
        tellingChangesNothing();
        runOfFiveHundredAndTwelveCalls();
        Due.end();
    }

    private static int[] row(int... numbers) {
        return numbers;
    }

    /** A bar of 200 pieces of one step each, of which some are cut. */
    private static TapedShears crumbs(int places, int cuts) {
        TapedShears x = new TapedShears();
        x.want(1, 1, 0);
        x.bed(places, 200);
        x.bar(200, 0);
        cut(x, cuts);
        return x;
    }

    private static void cut(TapedShears x, int times) {
        for (int i = 0; i < times; i++) {
            x.cut();
        }
    }

    /** A plan whose one piece ends at a step of the bar. */
    private static TapedShears endingAt(int end) {
        TapedShears x = new TapedShears();
        x.want(end, end, 0);
        x.bar(end, 0);
        return x;
    }

    private static void time(int end, int perTurn, int turns, int thousandths) {
        TapedShears x = endingAt(end);
        Due.is("blade(0, " + perTurn + ", 0)", x.blade(0, perTurn, 0), turns);
        Due.is("blade(0, " + perTurn + ", 1)", x.blade(0, perTurn, 1), thousandths);
    }

    /** Promise 9: "Cuts the next piece: its place on the bed; -1 to the side." */
    private static void cutAnswersThePlace() {
        TapedShears x = crumbs(20, 0);
        for (int place = 0; place < 20; place++) {
            Due.is("cut()", x.cut(), place);
            Due.is("at()", x.at(place), place);
        }
        Due.is("cut() with a full bed", x.cut(), -1);
        Due.is("cutAt(20, 2)", x.cutAt(20, 2), -1);
        x.bundle(0, 20);
        Due.is("cut() with an empty bed", x.cut(), 0);
    }

    /** Promise 9: "Turn: none is left to cut". */
    private static void cutWithNoneLeft() {
        TapedShears x = new TapedShears();
        Due.unchanged(x, 0, 0, TURN, x::cut);
        x.want(101, 101, 0);
        Due.unchanged(x, 0, 0, TURN, x::cut);
        x.known(101);
        Due.is("cut()", x.cut(), 0);
        Due.unchanged(x, 0, 0, TURN, x::cut);
        x.known(200);
        Due.unchanged(x, 0, 0, TURN, x::cut);
        x.want(99, 99, 0);
        Due.is("cut()", x.cut(), 1);
        Due.unchanged(x, 0, 0, TURN, x::cut);
        x.bar(1, 1);
        Due.unchanged(x, 0, 0, TURN, x::cut);
    }

    /** Promise 9: "meaning: 300 were cut in all.": over bars, bundled ones and those at the side with them. */
    private static void cutThreeHundred() {
        TapedShears x = crumbs(1, 200);
        x.bundle(0, 1);
        x.bar(200, 0);
        cut(x, 99);
        Due.is("the 300th", x.cut(), -1);
        Due.unchanged(x, 0, 0, MEANING, x::cut);
        Due.unchanged(x, 0, 0, MEANING, x::cut);
        x.bundle(0, 1);
        Due.meaning("a place is free", x::cut);
        Due.is("at(0)", x.at(0), -1);
        x.bar(200, 0);
        Due.meaning("another bar", x::cut);
        Due.is("pieces()", x.pieces(), 200);
        Due.is("piece(0, 3)", x.piece(0, 3), 0);
        Due.is("sum(0)", x.sum(0), 300);
        Due.is("cutAt(299, 1)", x.cutAt(299, 1), 1);
        Due.index("cutAt(300, 1)", () -> x.cutAt(300, 1));
        Due.is("side(297)", x.side(297), 299);
        Due.is("side(298)", x.side(298), -1);
    }

    /** Promise 9: none left to cut is looked at before the 300. */
    private static void cutTurnBeforeMeaning() {
        TapedShears x = crumbs(10, 200);
        x.bar(100, 0);
        cut(x, 100);
        Due.unchanged(x, 0, 0, TURN, x::cut);
        x.known(101);
        Due.unchanged(x, 0, 0, MEANING, x::cut);
    }

    /** Promise 10: "it must be empty. Turn: it is not". */
    private static void bedMustBeEmpty() {
        TapedShears x = crumbs(3, 3);
        Due.unchanged(x, 0, 0, TURN, () -> x.bed(3, 200));
        x.bundle(0, 2);
        Due.unchanged(x, 0, 0, TURN, () -> x.bed(20, 200));
        x.bundle(0, 1);
        x.bed(2, 200);
        Due.index("at(2)", () -> x.at(2));
        Due.is("cut()", x.cut(), 0);
        Due.unchanged(x, 0, 0, TURN, () -> x.bed(2, 200));
    }

    /** Promise 10: what went to the side does not lie on the bed. */
    private static void bedOfSideCutsIsEmpty() {
        TapedShears x = new TapedShears();
        x.want(20, 20, 0);
        x.bed(1, 19);
        cut(x, 2);
        x.bed(4, 20);
        Due.is("cut()", x.cut(), 0);
        Due.is("side(1)", x.side(1), 1);
        Due.is("side(2)", x.side(2), -1);
    }

    /** Promise 10: "range: places, longest."; the bed stays as it was, its longest too. */
    private static void bedOutOfRange() {
        TapedShears x = new TapedShears();
        x.want(20, 20, 0);
        x.bed(2, 20);
        for (int wrong : row(0, -1, 21, LEAST, MOST)) {
            Due.unchanged(x, 0, 0, RANGE, () -> x.bed(wrong, 5));
        }
        for (int wrong : row(0, -1, 201, LEAST, MOST)) {
            Due.unchanged(x, 0, 0, RANGE, () -> x.bed(5, wrong));
        }
        Due.is("cut()", x.cut(), 0);
        Due.is("cut()", x.cut(), 1);
        Due.is("cut()", x.cut(), -1);
    }

    /** Promise 10: the turn is looked at before the range. */
    private static void bedTurnBeforeRange() {
        TapedShears x = crumbs(10, 1);
        Due.turn("bed(0, 5)", () -> x.bed(0, 5));
        Due.turn("bed(5, 201)", () -> x.bed(5, 201));
        x.bundle(0, 1);
        Due.range("bed(0, 5)", () -> x.bed(0, 5));
        Due.range("bed(5, 201)", () -> x.bed(5, 201));
    }

    /** Promise 10: the ends of both ranges. */
    private static void bedSmallestAndGreatest() {
        TapedShears x = new TapedShears();
        x.want(1, 2, 0);
        x.bar(2, 0);
        x.bed(1, 1);
        Due.is("a piece of 2 steps", x.cut(), -1);
        x.bar(1, 0);
        Due.is("a piece of 1 step", x.cut(), 0);
        x.bundle(0, 1);
        TapedShears y = endingAt(200);
        y.bed(20, 200);
        Due.is("a piece of 200 steps", y.cut(), 0);
        y.bundle(0, 1);
        y.bed(20, 199);
        y.bar(200, 0);
        Due.is("longer than the longest by one", y.cut(), -1);
    }

    /** Promise 10: places that come with a greater bed are empty, also when they were in use before. */
    private static void bedThatGrowsAndShrinks() {
        TapedShears x = crumbs(20, 20);
        x.bundle(0, 20);
        x.bed(1, 200);
        Due.is("cut()", x.cut(), 0);
        Due.is("cut()", x.cut(), -1);
        x.bundle(0, 1);
        x.bed(20, 200);
        for (int place = 0; place < 20; place++) {
            Due.is("at()", x.at(place), -1);
        }
        for (int place = 0; place < 20; place++) {
            Due.is("cut()", x.cut(), place);
        }
    }

    /** Promise 11: "the number of the cut (0 the very first one), -1: none." */
    private static void atWithNothingThere() {
        TapedShears x = crumbs(2, 0);
        Due.is("at(0)", x.at(0), -1);
        Due.is("at(1)", x.at(1), -1);
        cut(x, 1);
        Due.is("at(0)", x.at(0), 0);
        Due.is("at(1)", x.at(1), -1);
        x.bundle(0, 1);
        Due.is("at(0)", x.at(0), -1);
        x.bar(5, 0);
        cut(x, 2);
        Due.is("at(0), over all bars", x.at(0), 1);
        Due.is("at(1)", x.at(1), 2);
    }

    /** Promise 11: "Index: no such place." */
    private static void atNoSuchPlace() {
        for (int places : row(1, 2, 10, 19, 20)) {
            TapedShears x = crumbs(places, places);
            Due.is("the last place", x.at(places - 1), places - 1);
            for (int wrong : row(-1, places, 21, LEAST, MOST)) {
                Due.unchanged(x, 0, 0, INDEX, () -> x.at(wrong));
            }
        }
    }

    /** Promise 12: "how many bundles there were": over all lengths and bars; refused ones do not count. */
    private static void bundleCountsBundles() {
        TapedShears x = new TapedShears();
        x.want(30, 30, 0);
        x.want(20, 20, 0);
        x.bar(50, 0);
        cut(x, 2);
        Due.is("bundle(1, 1)", x.bundle(1, 1), 1);
        Due.meaning("bundle(1, 1)", () -> x.bundle(1, 1));
        Due.range("bundle(0, 0)", () -> x.bundle(0, 0));
        Due.index("bundle(2, 1)", () -> x.bundle(2, 1));
        x.bar(50, 0);
        cut(x, 2);
        Due.is("of both bars", x.bundle(0, 2), 2);
        Due.is("bundle(1, 1)", x.bundle(1, 1), 3);
        Due.is("cutAt(0, 3)", x.cutAt(0, 3), 1);
        Due.is("cutAt(1, 3)", x.cutAt(1, 3), 0);
        Due.is("cutAt(2, 3)", x.cutAt(2, 3), 1);
        Due.is("cutAt(3, 3)", x.cutAt(3, 3), 2);
    }

    /** Promise 12: "Index: no such length". */
    private static void bundleNoSuchLength() {
        TapedShears x = crumbs(10, 3);
        for (int wrong : row(-1, 1, 5, 6, LEAST, MOST)) {
            Due.unchanged(x, 0, 0, INDEX, () -> x.bundle(wrong, 1));
        }
        Due.is("bundle(0, 1)", x.bundle(0, 1), 1);
    }

    /** Promise 12: "range: n" (1 .. 20). */
    private static void bundleOutOfRange() {
        TapedShears x = crumbs(20, 20);
        for (int wrong : row(0, -1, 21, LEAST, MOST)) {
            Due.unchanged(x, 0, 0, RANGE, () -> x.bundle(0, wrong));
        }
    }

    /** Promise 12: "A bundle of n pieces (1 .. 20)": the ends of the range. */
    private static void bundleOfOneAndOfTwenty() {
        TapedShears x = crumbs(20, 20);
        Due.is("bundle(0, 1)", x.bundle(0, 1), 1);
        Due.meaning("one is missing", () -> x.bundle(0, 20));
        cut(x, 1);
        Due.is("bundle(0, 20)", x.bundle(0, 20), 2);
        for (int c = 1; c <= 20; c++) {
            Due.is("cutAt()", x.cutAt(c, 2), -2);
            Due.is("cutAt()", x.cutAt(c, 3), 1);
        }
        for (int place = 0; place < 20; place++) {
            Due.is("at()", x.at(place), -1);
        }
    }

    /** Promise 12: "meaning: there are not so many on the bed.": neither the side nor bundles count. */
    private static void bundleNotSoMany() {
        TapedShears x = crumbs(2, 5);
        Due.unchanged(x, 0, 0, MEANING, () -> x.bundle(0, 3));
        Due.is("bundle(0, 1)", x.bundle(0, 1), 1);
        Due.unchanged(x, 0, 0, MEANING, () -> x.bundle(0, 2));
        Due.is("bundle(0, 1)", x.bundle(0, 1), 2);
        Due.unchanged(x, 0, 0, MEANING, () -> x.bundle(0, 1));
        x.want(200, 200, 0);
        Due.unchanged(x, 0, 0, MEANING, () -> x.bundle(1, 1));
    }

    /** Promise 12: the refusals in their order. */
    private static void bundleIndexBeforeRangeBeforeMeaning() {
        TapedShears x = crumbs(10, 0);
        Due.index("bundle(1, 0)", () -> x.bundle(1, 0));
        Due.index("bundle(-1, 21)", () -> x.bundle(-1, 21));
        Due.index("bundle(1, 1)", () -> x.bundle(1, 1));
        Due.range("bundle(0, 0)", () -> x.bundle(0, 0));
        Due.range("bundle(0, 21)", () -> x.bundle(0, 21));
        Due.meaning("bundle(0, 1)", () -> x.bundle(0, 1));
        Due.meaning("bundle(0, 20)", () -> x.bundle(0, 20));
    }

    /** Promise 13: "2 its place (-1 side, -2 bundled), 3 its bundle (-1: none)." */
    private static void cutAtEachState() {
        TapedShears x = new TapedShears();
        x.want(30, 30, 0);
        x.want(35, 35, 0);
        x.bed(1, 200);
        cut(x, 3);
        x.bundle(0, 1);
        x.bar(35, 0);
        cut(x, 1);
        int[][] due = {{0, 30, -2, 0}, {1, 35, -1, -1}, {1, 35, -1, -1}, {1, 35, 0, -1}};
        for (int c = 0; c < due.length; c++) {
            for (int what = 0; what < 4; what++) {
                Due.is("cutAt(" + c + ", " + what + ")", x.cutAt(c, what), due[c][what]);
            }
        }
    }

    /** Promise 13: "Index: no such cut". */
    private static void cutAtNoSuchCut() {
        TapedShears x = crumbs(10, 0);
        Due.index("nothing is cut", () -> x.cutAt(0, 0));
        cut(x, 12);
        x.bar(200, 0);
        for (int wrong : row(-1, 12, 299, 300, LEAST, MOST)) {
            for (int what = 0; what < 4; what++) {
                int w = what;
                Due.index("cutAt(" + wrong + ", " + w + ")", () -> x.cutAt(wrong, w));
            }
        }
        Due.is("cutAt(11, 0)", x.cutAt(11, 0), 0);
    }

    /** Promise 13: "or what." */
    private static void cutAtNoSuchWhat() {
        TapedShears x = crumbs(10, 1);
        for (int wrong : row(-1, 4, LEAST, MOST)) {
            Due.unchanged(x, 0, 0, INDEX, () -> x.cutAt(0, wrong));
            Due.index("both", () -> x.cutAt(1, wrong));
        }
    }

    /** Promise 14: an end at a whole turn, one step before it and one behind it. */
    private static void bladeAtWholeTurns() {
        time(49, 50, 0, 980);
        time(50, 50, 1, 0);
        time(51, 50, 1, 20);
        time(99, 50, 1, 980);
        time(100, 50, 2, 0);
        time(1, 1, 1, 0);
        time(200, 1, 200, 0);
        time(200, 1000, 0, 200);
        time(1, 1000, 0, 1);
        TapedShears x = new TapedShears();
        x.bar(200, 0);
        x.crop(100, 0);
        x.want(50, 50, 0);
        Due.is("the head is with it", x.blade(0, 150, 0), 1);
        Due.is("blade(0, 150, 1)", x.blade(0, 150, 1), 0);
        Due.is("blade(1, 150, 1)", x.blade(1, 150, 1), 333);
    }

    /** Promise 14: "rounded to the nearest (a half up". */
    private static void bladeRoundsAHalfUp() {
        time(1, 16, 0, 63);
        time(1, 80, 0, 13);
        time(3, 80, 0, 38);
        time(17, 16, 1, 63);
        time(1, 400, 0, 3);
        time(3, 400, 0, 8);
        time(1, 401, 0, 2);
        time(1, 399, 0, 3);
        time(1, 666, 0, 2);
        time(1, 667, 0, 1);
        time(2, 3, 0, 667);
        time(1, 3, 0, 333);
    }

    /**
     * Promise 14: "a thousand thousandths are one turn more": an end is at most 200 steps from the begin,
     * so that the nearest to a whole turn from below is 995 thousandths, and no part reaches a thousand.
     */
    private static void bladeNearAWholeTurn() {
        time(199, 200, 0, 995);
        time(200, 201, 0, 995);
        time(198, 199, 0, 995);
        time(200, 199, 1, 5);
        time(199, 100, 1, 990);
        for (int end = 1; end <= 200; end++) {
            TapedShears x = endingAt(end);
            for (int perTurn = end; perTurn <= 1000; perTurn++) {
                Due.is("whole turns", x.look(TapedShears.BLADE, 0, perTurn, 0), end == perTurn ? 1 : 0);
            }
        }
    }

    /** Promise 14: "Index: no such piece or part". */
    private static void bladeNoSuchPieceOrPart() {
        TapedShears x = crumbs(10, 3);
        for (int wrong : row(-1, 200, LEAST, MOST)) {
            Due.unchanged(x, 0, 0, INDEX, () -> x.blade(wrong, 1, 0));
            Due.unchanged(x, 0, 0, INDEX, () -> x.blade(wrong, 1, 1));
        }
        for (int wrong : row(-1, 2, LEAST, MOST)) {
            Due.unchanged(x, 0, 0, INDEX, () -> x.blade(0, 1, wrong));
        }
        Due.is("the last piece", x.blade(199, 1, 0), 200);
        Due.index("no piece at all", () -> new TapedShears().blade(0, 1, 0));
    }

    /** Promise 14: "range: per turn." (1 .. 1,000) */
    private static void bladeOutOfRange() {
        TapedShears x = crumbs(10, 3);
        for (int wrong : row(0, -1, 1001, LEAST, MOST)) {
            Due.unchanged(x, 0, 0, RANGE, () -> x.blade(0, wrong, 0));
            Due.unchanged(x, 0, 0, RANGE, () -> x.blade(199, wrong, 1));
        }
    }

    /** Promise 14: the index is looked at before the range. */
    private static void bladeIndexBeforeRange() {
        TapedShears x = crumbs(10, 0);
        Due.index("no such piece", () -> x.blade(200, 0, 0));
        Due.index("no such part", () -> x.blade(0, 0, 2));
        Due.index("no such part", () -> x.blade(0, 1001, -1));
    }

    /** Promise 15: "Steps of a wanted length that were cut in all.": none yet. */
    private static void sumOfNothingCut() {
        TapedShears x = new TapedShears();
        x.want(50, 50, 0);
        x.want(150, 150, 0);
        Due.is("planned alone", x.sum(0), 0);
        cut(x, 1);
        Due.is("sum(0)", x.sum(0), 50);
        Due.is("sum(1)", x.sum(1), 0);
        x.bundle(0, 1);
        x.bar(50, 0);
        Due.is("bundled, and of a bar before", x.sum(0), 50);
    }

    /** Promise 15, the most that 512 calls can cut: 255 bars of 200 steps, most of them at the side. */
    private static void sumAtMost() {
        TapedShears x = new TapedShears();
        x.want(200, 200, 0);
        for (int c = 0; c < 255; c++) {
            x.bar(200, 0);
            x.cut();
        }
        Due.is("sum(0), the 512th call", x.sum(0), 51000);
    }

    /** Promise 15: "Index: no such length." */
    private static void sumNoSuchLength() {
        TapedShears x = new TapedShears();
        Due.index("nothing is wanted", () -> x.sum(0));
        for (int count = 1; count <= 6; count++) {
            x.want(10, 10, 0);
            Due.is("the last one", x.sum(count - 1), 0);
            for (int wrong : row(-1, count, 6, LEAST, MOST)) {
                Due.index("sum(" + wrong + ")", () -> x.sum(wrong));
            }
        }
    }

    /** Promise 16: "-1 when there are not so many." */
    private static void sideWithNotSoMany() {
        TapedShears x = crumbs(2, 2);
        Due.is("side(0)", x.side(0), -1);
        cut(x, 1);
        Due.is("side(0)", x.side(0), 2);
        Due.is("side(1)", x.side(1), -1);
        x.bundle(0, 1);
        cut(x, 2);
        x.bar(3, 0);
        cut(x, 1);
        Due.is("side(0)", x.side(0), 2);
        Due.is("side(1)", x.side(1), 4);
        Due.is("side(2)", x.side(2), 5);
        for (int k : row(3, 299, 300, 301, MOST)) {
            Due.is("side(" + k + ")", x.side(k), -1);
        }
    }

    /** Promise 16: "Index: k is below 0." */
    private static void sideBelowZero() {
        TapedShears x = crumbs(1, 5);
        for (int wrong : row(-1, -2, LEAST)) {
            Due.unchanged(x, 0, 0, INDEX, () -> x.side(wrong));
            Due.index("of a new object", () -> new TapedShears().side(wrong));
        }
    }

    /** "Nothing is promised beyond the .. state changes described above": calls that tell describe none. */
    private static void tellingChangesNothing() {
        TapedShears x = crumbs(2, 4);
        x.bundle(0, 1);
        String before = Shown.of(x);
        for (int what = 0; what < 4; what++) {
            x.piece(3, what);
            x.piece(4, what);
            x.cutAt(0, what);
            x.cutAt(3, what);
        }
        x.pieces();
        x.loss();
        x.at(0);
        x.at(1);
        x.blade(4, 7, 0);
        x.blade(4, 7, 1);
        x.sum(0);
        x.side(0);
        x.side(9);
        Due.same("after the calls that tell", Shown.of(x), before);
        Due.is("the next place", x.cut(), 0);
    }

    /** "An object is used for at most 512 calls": the last one is as good as the first. */
    private static void runOfFiveHundredAndTwelveCalls() {
        TapedShears x = new TapedShears();
        x.want(1, 1, 0);
        for (int call = 1; call < 511; call++) {
            x.bar(100 + call % 100, 0);
        }
        Due.is("the 512th call", x.cut(), 0);
    }
}

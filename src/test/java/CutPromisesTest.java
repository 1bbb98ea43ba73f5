/** Promises 9 to 13, 15 and 16: cut, bed, at, bundle, cutAt, sum, side. */
public final class CutPromisesTest {
    public static void main(String[] args) {
        cutFillsTheBed();
        cutHasNoneLeft();
        cutStopsAtThreeHundred();
        bedLimits();
        bedMustBeEmpty();
        bedTooShort();
        atPlaces();
        bundleTakesTheFirstCutFirst();
        bundleRefusals();
        bundleOfTwenty();
        cutAtTells();
        sumOverBars();
        sideInOrder();
        Due.end();
    }

    /** A bar of 200 pieces of one step each, wanted length 0. */
    private static TapedShears crumbs() {
        TapedShears x = new TapedShears();
        x.want(1, 1, 1);
        x.bar(200, 0);
        return x;
    }

    private static void cutFillsTheBed() {
        TapedShears x = crumbs();
        for (int place = 0; place < 10; place++) {
            Due.is("cut()", x.cut(), place);
        }
        Due.is("cut(), no place is free", x.cut(), -1);
        Due.is("bundle(0, 3)", x.bundle(0, 3), 1);
        Due.is("cut(), the lowest free place", x.cut(), 0);
        Due.is("at(0)", x.at(0), 11);
        Due.is("piece(11, 3)", x.piece(11, 3), 1);
        Due.is("piece(12, 3)", x.piece(12, 3), 0);
    }

    private static void cutHasNoneLeft() {
        TapedShears x = new TapedShears();
        Due.turn("cut()", x::cut);
        x.want(60, 60, 0);
        Due.is("cut()", x.cut(), 0);
        Due.turn("cut()", x::cut);
        x.known(120);
        Due.is("cut()", x.cut(), 1);
        Due.turn("cut()", x::cut);
        x.bar(59, 0);
        Due.turn("cut()", x::cut);
    }

    private static void cutStopsAtThreeHundred() {
        TapedShears x = crumbs();
        for (int c = 0; c < 200; c++) {
            x.cut();
        }
        Due.turn("cut()", x::cut);
        x.bar(101, 0);
        for (int c = 200; c < 300; c++) {
            x.cut();
        }
        Due.meaning("cut() for the 301st time", x::cut);
        Due.is("piece(99, 3)", x.piece(99, 3), 1);
        Due.is("piece(100, 3)", x.piece(100, 3), 0);
        Due.is("sum(0)", x.sum(0), 300);
        Due.is("cutAt(299, 0)", x.cutAt(299, 0), 0);
        Due.index("cutAt(300, 0)", () -> x.cutAt(300, 0));
        Due.is("side(289)", x.side(289), 299);
        Due.is("side(290)", x.side(290), -1);
        x.crop(0, 1);
        Due.turn("cut(), turn goes before meaning", x::cut);
    }

    private static void bedLimits() {
        TapedShears x = crumbs();
        int[][] wrong = {{0, 5}, {-1, 5}, {21, 5}, {5, 0}, {5, -1}, {5, 201}, {Integer.MIN_VALUE, 5},
            {Integer.MAX_VALUE, 5}, {5, Integer.MIN_VALUE}, {5, Integer.MAX_VALUE}};
        for (int[] w : wrong) {
            Due.range("bed(" + w[0] + ", " + w[1] + ")", () -> x.bed(w[0], w[1]));
        }
        Due.is("at(9)", x.at(9), -1);
        x.bed(20, 200);
        Due.is("at(19)", x.at(19), -1);
        Due.index("at(20)", () -> x.at(20));
        x.bed(1, 1);
        Due.index("at(1)", () -> x.at(1));
        Due.is("cut()", x.cut(), 0);
        Due.is("cut()", x.cut(), -1);
    }

    private static void bedMustBeEmpty() {
        TapedShears x = crumbs();
        x.cut();
        x.cut();
        Due.turn("bed(5, 5)", () -> x.bed(5, 5));
        Due.turn("bed(0, 0), turn goes before range", () -> x.bed(0, 0));
        Due.is("at(9), the bed is as it was", x.at(9), -1);
        x.bundle(0, 1);
        Due.turn("bed(5, 5)", () -> x.bed(5, 5));
        x.bundle(0, 1);
        x.bed(5, 5);
        Due.index("at(5)", () -> x.at(5));
        Due.range("bed(0, 0)", () -> x.bed(0, 0));
    }

    private static void bedTooShort() {
        TapedShears x = new TapedShears();
        x.want(20, 20, 0);
        x.bed(3, 19);
        Due.is("cut(), too long", x.cut(), -1);
        x.bed(3, 20);
        Due.is("cut(), as long as the longest", x.cut(), 0);
        Due.is("at(0)", x.at(0), 1);
        Due.is("side(0)", x.side(0), 0);
    }

    private static void atPlaces() {
        TapedShears x = crumbs();
        x.bed(3, 200);
        for (int c = 0; c < 5; c++) {
            x.cut();
        }
        Due.is("at(0)", x.at(0), 0);
        Due.is("at(2)", x.at(2), 2);
        for (int place : new int[] {-1, 3, Integer.MIN_VALUE, Integer.MAX_VALUE}) {
            Due.index("at(" + place + ")", () -> x.at(place));
        }
        x.bundle(0, 2);
        Due.is("at(0)", x.at(0), -1);
        Due.is("at(1)", x.at(1), -1);
        Due.is("at(2)", x.at(2), 2);
        x.bar(10, 0);
        Due.is("at(2), over bars", x.at(2), 2);
    }

    /** Cut 3 lies at place 0, below the earlier cuts 1 and 2: the bundle must go by the cuts. */
    private static void bundleTakesTheFirstCutFirst() {
        TapedShears x = crumbs();
        x.bed(3, 200);
        x.cut();
        x.cut();
        x.cut();
        Due.is("bundle(0, 1)", x.bundle(0, 1), 1);
        Due.is("cut()", x.cut(), 0);
        Due.is("bundle(0, 2)", x.bundle(0, 2), 2);
        Due.is("at(0)", x.at(0), 3);
        Due.is("at(1)", x.at(1), -1);
        Due.is("at(2)", x.at(2), -1);
        Due.is("cutAt(0, 3)", x.cutAt(0, 3), 0);
        Due.is("cutAt(1, 3)", x.cutAt(1, 3), 1);
        Due.is("cutAt(2, 3)", x.cutAt(2, 3), 1);
        Due.is("cutAt(3, 3)", x.cutAt(3, 3), -1);
    }

    private static void bundleRefusals() {
        TapedShears x = new TapedShears();
        x.want(30, 30, 0);
        x.want(40, 40, 0);
        x.cut();
        x.cut();
        x.cut();
        Due.is("cutAt(2, 0)", x.cutAt(2, 0), 1);
        for (int wanted : new int[] {-1, 2, Integer.MIN_VALUE, Integer.MAX_VALUE}) {
            Due.index("bundle(" + wanted + ", 1)", () -> x.bundle(wanted, 1));
            Due.index("bundle(" + wanted + ", 0)", () -> x.bundle(wanted, 0));
        }
        for (int n : new int[] {0, -1, 21, Integer.MIN_VALUE, Integer.MAX_VALUE}) {
            Due.range("bundle(0, " + n + ")", () -> x.bundle(0, n));
        }
        Due.meaning("bundle(0, 3)", () -> x.bundle(0, 3));
        Due.meaning("bundle(1, 2)", () -> x.bundle(1, 2));
        Due.is("at(0), nothing was taken", x.at(0), 0);
        Due.is("bundle(1, 1)", x.bundle(1, 1), 1);
        Due.is("at(2)", x.at(2), -1);
        Due.is("at(1)", x.at(1), 1);
        Due.is("bundle(0, 2)", x.bundle(0, 2), 2);
        Due.meaning("bundle(0, 1)", () -> x.bundle(0, 1));
    }

    private static void bundleOfTwenty() {
        TapedShears x = crumbs();
        x.bed(20, 200);
        for (int c = 0; c < 22; c++) {
            x.cut();
        }
        Due.is("bundle(0, 20)", x.bundle(0, 20), 1);
        Due.meaning("bundle(0, 1), the side is not the bed", () -> x.bundle(0, 1));
    }

    private static void cutAtTells() {
        TapedShears x = new TapedShears();
        x.want(60, 60, 0);
        x.want(35, 35, 0);
        x.bed(2, 40);
        x.cut();
        x.cut();
        int[][] due = {{0, 60, -1, -1}, {1, 35, 0, -1}};
        for (int c = 0; c < 2; c++) {
            for (int what = 0; what < 4; what++) {
                Due.is("cutAt(" + c + ", " + what + ")", x.cutAt(c, what), due[c][what]);
            }
        }
        x.bundle(1, 1);
        Due.is("cutAt(1, 2)", x.cutAt(1, 2), -2);
        Due.is("cutAt(1, 3)", x.cutAt(1, 3), 0);
        Due.is("cutAt(0, 2)", x.cutAt(0, 2), -1);
        for (int c : new int[] {-1, 2, Integer.MIN_VALUE, Integer.MAX_VALUE}) {
            Due.index("cutAt(" + c + ", 0)", () -> x.cutAt(c, 0));
        }
        for (int what : new int[] {-1, 4, Integer.MIN_VALUE, Integer.MAX_VALUE}) {
            Due.index("cutAt(0, " + what + ")", () -> x.cutAt(0, what));
        }
    }

    private static void sumOverBars() {
        TapedShears x = new TapedShears();
        x.want(30, 34, 0);
        x.want(50, 50, 9);
        x.want(7, 7, 0);
        Due.is("sum(1)", x.sum(1), 0);
        x.cut();
        x.cut();
        Due.is("sum(1)", x.sum(1), 100);
        x.bar(34, 0);
        x.cut();
        Due.is("sum(0)", x.sum(0), 34);
        Due.is("sum(1)", x.sum(1), 100);
        x.bundle(0, 1);
        Due.is("sum(0), bundled ones with them", x.sum(0), 34);
        Due.is("sum(2)", x.sum(2), 0);
        for (int wanted : new int[] {-1, 3, Integer.MIN_VALUE, Integer.MAX_VALUE}) {
            Due.index("sum(" + wanted + ")", () -> x.sum(wanted));
        }
    }

    private static void sideInOrder() {
        TapedShears x = crumbs();
        x.bed(1, 200);
        x.cut();
        x.cut();
        x.bundle(0, 1);
        x.cut();
        x.cut();
        Due.is("side(0)", x.side(0), 1);
        Due.is("side(1)", x.side(1), 3);
        Due.is("side(2)", x.side(2), -1);
        Due.is("side(most)", x.side(Integer.MAX_VALUE), -1);
        Due.index("side(-1)", () -> x.side(-1));
        Due.index("side(least)", () -> x.side(Integer.MIN_VALUE));
        x.bar(5, 0);
        Due.is("side(1), over bars", x.side(1), 3);
    }
}

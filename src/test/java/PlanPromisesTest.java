/** Promises 1 to 8: a new object, want, bar, crop, known, pieces, piece, loss. */
public final class PlanPromisesTest {
    public static void main(String[] args) {
        newObject();
        wantNumbers();
        wantRefusals();
        wantPlansAnewBehindTheCuts();
        barStartsAnew();
        barLimits();
        cropMovesAndShrinks();
        cropLimits();
        cropBehindCuts();
        knownPlansAnew();
        knownLimits();
        piecesAndPiece();
        lossOfEmptyRoom();
        refusalsChangeNothing();
        Due.end();
    }

    private static void newObject() {
        TapedShears x = new TapedShears();
        Due.is("pieces()", x.pieces(), 0);
        Due.is("loss()", x.loss(), 100);
        Due.index("piece(0, 0)", () -> x.piece(0, 0));
        Due.index("sum(0)", () -> x.sum(0));
        Due.index("cutAt(0, 0)", () -> x.cutAt(0, 0));
        Due.turn("cut()", x::cut);
        Due.is("side(0)", x.side(0), -1);
        for (int place = 0; place < 10; place++) {
            Due.is("at(" + place + ")", x.at(place), -1);
        }
        Due.index("at(10)", () -> x.at(10));
        x.want(100, 100, 0);
        Due.is("pieces()", x.pieces(), 1);
        Due.piece(x, 0, 0, 0, 100, 0);
        Due.is("cut()", x.cut(), 0);
    }

    private static void wantNumbers() {
        TapedShears x = new TapedShears();
        for (int number = 0; number < 6; number++) {
            Due.is("want()", x.want(1 + number, 200, 9), number);
            Due.is("sum()", x.sum(number), 0);
        }
        Due.meaning("the seventh want", () -> x.want(1, 1, 0));
        Due.range("the seventh want, out of range", () -> x.want(2, 1, 0));
        Due.index("sum(6)", () -> x.sum(6));
    }

    private static void wantRefusals() {
        TapedShears x = new TapedShears();
        int[][] wrong = {{0, 1, 0}, {-1, 5, 0}, {6, 5, 0}, {1, 201, 0}, {201, 201, 0}, {1, 1, -1}, {1, 1, 10},
            {0, 0, 0}, {Integer.MIN_VALUE, Integer.MAX_VALUE, 0}, {1, Integer.MAX_VALUE, 0}, {1, 1, Integer.MIN_VALUE}};
        for (int[] w : wrong) {
            Due.range("want(" + w[0] + ", " + w[1] + ", " + w[2] + ")", () -> x.want(w[0], w[1], w[2]));
        }
        Due.is("want(200, 200, 9)", x.want(200, 200, 9), 0);
        Due.is("want(1, 1, 0)", x.want(1, 1, 0), 1);
        Due.is("want(1, 200, 0)", x.want(1, 200, 0), 2);
    }

    private static void wantPlansAnewBehindTheCuts() {
        TapedShears x = new TapedShears();
        x.want(40, 40, 0);
        x.cut();
        Due.is("loss()", x.loss(), 20);
        Due.is("want(30, 30, 0)", x.want(30, 30, 0), 1);
        Due.is("pieces()", x.pieces(), 3);
        Due.is("loss()", x.loss(), 0);
        Due.piece(x, 0, 0, 0, 40, 1);
        Due.piece(x, 1, 1, 40, 30, 0);
        Due.piece(x, 2, 1, 70, 30, 0);
    }

    private static void barStartsAnew() {
        TapedShears x = new TapedShears();
        x.want(25, 25, 1);
        x.crop(5, 10);
        x.cut();
        x.cut();
        x.bar(60, 3);
        Due.is("pieces()", x.pieces(), 1);
        Due.piece(x, 0, 0, 5, 25, 0);
        Due.is("loss(), the crops stay over bars", x.loss(), 17);
        Due.is("at(0)", x.at(0), 0);
        Due.is("at(1)", x.at(1), 1);
        Due.is("cut()", x.cut(), 2);
        Due.is("sum(0)", x.sum(0), 75);
    }

    private static void barLimits() {
        TapedShears x = new TapedShears();
        int[][] wrong = {{0, 0}, {-1, 0}, {201, 0}, {5, -1}, {5, 51}, {Integer.MIN_VALUE, 0}, {Integer.MAX_VALUE, 0},
            {5, Integer.MIN_VALUE}, {5, Integer.MAX_VALUE}};
        for (int[] w : wrong) {
            Due.range("bar(" + w[0] + ", " + w[1] + ")", () -> x.bar(w[0], w[1]));
        }
        Due.is("loss()", x.loss(), 100);
        x.bar(200, 50);
        Due.is("loss()", x.loss(), 150);
        x.bar(200, 0);
        Due.is("loss()", x.loss(), 200);
        x.bar(1, 0);
        Due.is("loss()", x.loss(), 1);
        x.bar(1, 50);
        Due.is("loss()", x.loss(), 0);
    }

    private static void cropMovesAndShrinks() {
        TapedShears x = new TapedShears();
        x.want(10, 12, 0);
        x.crop(30, 40);
        Due.is("pieces()", x.pieces(), 3);
        Due.is("loss()", x.loss(), 0);
        Due.piece(x, 0, 0, 30, 10, 0);
        Due.piece(x, 1, 0, 40, 10, 0);
        Due.piece(x, 2, 0, 50, 10, 0);
        x.crop(1, 0);
        Due.is("loss()", x.loss(), 0);
        Due.is("piece(0, 1)", x.piece(0, 1), 1);
    }

    private static void cropLimits() {
        TapedShears x = new TapedShears();
        int[][] wrong = {{-1, 0}, {0, -1}, {101, 0}, {0, 101}, {Integer.MAX_VALUE, Integer.MAX_VALUE},
            {Integer.MIN_VALUE, 0}, {0, Integer.MIN_VALUE}};
        for (int[] w : wrong) {
            Due.range("crop(" + w[0] + ", " + w[1] + ")", () -> x.crop(w[0], w[1]));
        }
        Due.is("loss()", x.loss(), 100);
        x.crop(100, 0);
        Due.is("loss()", x.loss(), 0);
        x.crop(0, 100);
        Due.is("loss()", x.loss(), 0);
        x.crop(100, 100);
        Due.is("loss()", x.loss(), 0);
        x.crop(0, 99);
        Due.is("loss()", x.loss(), 1);
    }

    private static void cropBehindCuts() {
        TapedShears x = new TapedShears();
        x.want(20, 20, 0);
        x.bar(100, 10);
        x.crop(5, 5);
        x.cut();
        x.cut();
        Due.meaning("another head", () -> x.crop(4, 5));
        Due.range("another head, out of range", () -> x.crop(4, 101));
        Due.meaning("a tail too long", () -> x.crop(5, 46));
        Due.is("loss()", x.loss(), 0);
        x.crop(5, 45);
        Due.is("pieces()", x.pieces(), 2);
        Due.is("loss()", x.loss(), 0);
        Due.piece(x, 1, 0, 25, 20, 1);
        x.crop(5, 0);
        Due.is("pieces()", x.pieces(), 4);
        Due.is("loss()", x.loss(), 5);
        x.bar(100, 10);
        x.crop(6, 0);
        Due.is("piece(0, 1)", x.piece(0, 1), 6);
    }

    private static void knownPlansAnew() {
        TapedShears x = new TapedShears();
        x.want(20, 20, 0);
        x.want(15, 15, 0);
        x.bar(110, 10);
        Due.piece(x, 4, 0, 80, 20, 0);
        x.cut();
        x.known(95);
        Due.is("loss(), without the error", x.loss(), 0);
        Due.is("pieces()", x.pieces(), 5);
        Due.piece(x, 0, 0, 0, 20, 1);
        Due.piece(x, 4, 1, 80, 15, 0);
        x.crop(0, 1);
        Due.is("loss(), the error stays 0", x.loss(), 4);
    }

    private static void knownLimits() {
        TapedShears x = new TapedShears();
        for (int wrong : new int[] {0, -1, 201, Integer.MIN_VALUE, Integer.MAX_VALUE}) {
            Due.range("known(" + wrong + ")", () -> x.known(wrong));
        }
        x.known(200);
        Due.is("loss()", x.loss(), 200);
        x.known(1);
        Due.is("loss()", x.loss(), 1);
        x.bar(50, 10);
        x.crop(3, 7);
        x.want(30, 30, 0);
        x.cut();
        Due.meaning("known(39)", () -> x.known(39));
        Due.meaning("known(1)", () -> x.known(1));
        Due.range("known(0)", () -> x.known(0));
        Due.is("loss(), the error is still there", x.loss(), 0);
        x.known(40);
        Due.is("loss()", x.loss(), 0);
        Due.piece(x, 0, 0, 3, 30, 1);
    }

    private static void piecesAndPiece() {
        TapedShears x = new TapedShears();
        x.want(1, 1, 0);
        x.bar(200, 0);
        Due.is("pieces()", x.pieces(), 200);
        Due.piece(x, 199, 0, 199, 1, 0);
        x.cut();
        Due.is("pieces(), the cut one with them", x.pieces(), 200);
        Due.piece(x, 0, 0, 0, 1, 1);
        Due.piece(x, 1, 0, 1, 1, 0);
        for (int k : new int[] {-1, 200, 201, Integer.MIN_VALUE, Integer.MAX_VALUE}) {
            Due.index("piece(" + k + ", 0)", () -> x.piece(k, 0));
        }
        for (int what : new int[] {-1, 4, Integer.MIN_VALUE, Integer.MAX_VALUE}) {
            Due.index("piece(0, " + what + ")", () -> x.piece(0, what));
        }
    }

    private static void lossOfEmptyRoom() {
        TapedShears x = new TapedShears();
        x.want(1, 200, 9);
        x.bar(10, 20);
        Due.is("loss()", x.loss(), 0);
        Due.is("pieces()", x.pieces(), 0);
        Due.turn("cut()", x::cut);
        x.known(10);
        Due.is("pieces(), ten of rank 9 beat one", x.pieces(), 10);
    }

    private static void refusalsChangeNothing() {
        TapedShears x = new TapedShears();
        x.want(30, 30, 2);
        x.cut();
        Due.meaning("crop(1, 0)", () -> x.crop(1, 0));
        Due.meaning("crop(0, 71)", () -> x.crop(0, 71));
        Due.meaning("known(29)", () -> x.known(29));
        Due.range("bar(1, 51)", () -> x.bar(1, 51));
        Due.range("want(1, 1, 10)", () -> x.want(1, 1, 10));
        Due.is("pieces()", x.pieces(), 3);
        Due.is("loss()", x.loss(), 10);
        Due.piece(x, 0, 0, 0, 30, 1);
        Due.is("want(10, 10, 0)", x.want(10, 10, 0), 1);
        Due.is("loss()", x.loss(), 0);
    }
}

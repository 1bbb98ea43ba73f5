/** Promise 14: blade. */
public final class BladePromiseTest {
    public static void main(String[] args) {
        headIsWithIt();
        halvesGoUp();
        thousandThousandths();
        cutPiecesToo();
        everyEndAndTurn();
        refusals();
        Due.end();
    }

    /** A plan whose one piece ends at a step of the bar. */
    private static TapedShears endingAt(int end) {
        TapedShears x = new TapedShears();
        x.want(end, end, 0);
        x.bar(end, 0);
        return x;
    }

    private static void time(TapedShears x, int k, int perTurn, int turns, int thousandths) {
        Due.is("blade(" + k + ", " + perTurn + ", 0)", x.blade(k, perTurn, 0), turns);
        Due.is("blade(" + k + ", " + perTurn + ", 1)", x.blade(k, perTurn, 1), thousandths);
    }

    private static void headIsWithIt() {
        TapedShears x = new TapedShears();
        x.want(20, 20, 0);
        x.crop(7, 0);
        time(x, 0, 9, 3, 0);
        time(x, 0, 10, 2, 700);
        time(x, 1, 47, 1, 0);
        time(x, 3, 1, 87, 0);
    }

    private static void halvesGoUp() {
        time(endingAt(1), 0, 16, 0, 63);
        time(endingAt(3), 0, 16, 0, 188);
        time(endingAt(1), 0, 400, 0, 3);
        time(endingAt(1), 0, 401, 0, 2);
        time(endingAt(1), 0, 1000, 0, 1);
        time(endingAt(1), 0, 3, 0, 333);
        time(endingAt(2), 0, 3, 0, 667);
    }

    /**
     * With at most 1,000 steps a turn the last step before a whole turn is at most 999 thousandths, so
     * that the carry can not be seen; what can be seen are the ends nearest to a whole turn.
     */
    private static void thousandThousandths() {
        time(endingAt(199), 0, 200, 0, 995);
        time(endingAt(200), 0, 200, 1, 0);
        time(endingAt(200), 0, 199, 1, 5);
        time(endingAt(199), 0, 1, 199, 0);
        time(endingAt(200), 0, 1000, 0, 200);
    }

    private static void cutPiecesToo() {
        TapedShears x = new TapedShears();
        x.want(33, 33, 0);
        x.cut();
        time(x, 0, 10, 3, 300);
        time(x, 1, 10, 6, 600);
        time(x, 2, 10, 9, 900);
    }

    /** Looks for the time by trying thousandths, without the division that the class uses. */
    private static void everyEndAndTurn() {
        for (int end = 1; end <= 200; end++) {
            TapedShears x = endingAt(end);
            for (int perTurn = 1; perTurn <= 1000; perTurn++) {
                int turns = x.look(TapedShears.BLADE, 0, perTurn, 0);
                int part = x.look(TapedShears.BLADE, 0, perTurn, 1);
                Due.holds("a part below 1,000", part >= 0 && part < 1000);
                long off = 2000L * end - 2L * perTurn * (1000L * turns + part);
                Due.holds("the nearest of " + end + " by " + perTurn, off >= -perTurn && off < perTurn);
            }
        }
    }

    private static void refusals() {
        TapedShears x = new TapedShears();
        Due.index("blade(0, 1, 0)", () -> x.blade(0, 1, 0));
        x.want(50, 50, 0);
        for (int k : new int[] {-1, 2, Integer.MIN_VALUE, Integer.MAX_VALUE}) {
            Due.index("blade(" + k + ", 1, 0)", () -> x.blade(k, 1, 0));
            Due.index("blade(" + k + ", 0, 0)", () -> x.blade(k, 0, 0));
        }
        for (int part : new int[] {-1, 2, Integer.MIN_VALUE, Integer.MAX_VALUE}) {
            Due.index("blade(0, 1, " + part + ")", () -> x.blade(0, 1, part));
            Due.index("blade(0, 0, " + part + ")", () -> x.blade(0, 0, part));
        }
        for (int perTurn : new int[] {0, -1, 1001, Integer.MIN_VALUE, Integer.MAX_VALUE}) {
            Due.range("blade(0, " + perTurn + ", 0)", () -> x.blade(0, perTurn, 0));
        }
    }
}

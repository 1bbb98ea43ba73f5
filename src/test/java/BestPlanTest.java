/** The best plan of "Terms", against every plan that there is. */
public final class BestPlanTest {
    private static final int DEEPEST = 16;

    private static int[][] wanted = new int[0][];
    private static int[] trial = new int[2 * DEEPEST];
    private static int[] best = new int[2 * DEEPEST];
    private static int bestCount;
    private static int bestLoss;
    private static int bestRanks;

    public static void main(String[] args) {
        handMade();
        greatSums();
        everyPlanOfSmallRooms();
        Due.end();
    }

    private static void handMade() {
        TapedShears loss = new TapedShears();
        loss.want(60, 60, 9);
        loss.want(48, 48, 0);
        Due.is("loss(), the least loss goes before ranks", loss.loss(), 4);

        TapedShears ranks = new TapedShears();
        ranks.want(100, 100, 1);
        ranks.want(50, 50, 1);
        Due.is("pieces(), ranks go before the fewest", ranks.pieces(), 2);

        TapedShears fewest = new TapedShears();
        fewest.want(25, 25, 0);
        fewest.want(50, 50, 0);
        Due.is("pieces(), the fewest", fewest.pieces(), 2);

        TapedShears lowest = new TapedShears();
        lowest.want(60, 60, 3);
        lowest.want(40, 40, 3);
        Due.piece(lowest, 0, 0, 0, 60, 0);
        Due.piece(lowest, 1, 1, 60, 40, 0);

        TapedShears shortest = new TapedShears();
        shortest.want(40, 70, 0);
        Due.piece(shortest, 0, 0, 0, 40, 0);
        Due.piece(shortest, 1, 0, 40, 60, 0);
    }

    /** Sums as great as they get: a step of loss still outweighs all ranks, a rank all pieces. */
    private static void greatSums() {
        TapedShears x = new TapedShears();
        x.want(1, 1, 9);
        x.want(200, 200, 0);
        x.bar(200, 0);
        Due.is("pieces()", x.pieces(), 200);

        TapedShears y = new TapedShears();
        y.want(2, 2, 9);
        y.want(199, 199, 0);
        y.bar(199, 0);
        Due.is("loss()", y.loss(), 0);
        Due.is("pieces()", y.pieces(), 1);
        y.crop(1, 0);
        Due.is("pieces()", y.pieces(), 99);

        TapedShears z = new TapedShears();
        z.want(200, 200, 0);
        z.want(1, 1, 0);
        z.want(101, 101, 1);
        z.bar(200, 0);
        Due.is("pieces(), one rank outweighs 99 pieces", z.pieces(), 100);
        Due.piece(z, 99, 2, 99, 101, 0);
    }

    private static void everyPlanOfSmallRooms() {
        int seed = 7;
        for (int round = 0; round < 400; round++) {
            wanted = new int[1 + round % 6][];
            TapedShears x = new TapedShears();
            for (int w = 0; w < wanted.length; w++) {
                seed = next(seed);
                int low = 2 + (seed >>> 8) % 7;
                int high = low + (seed >>> 12) % 4;
                int rank = (seed >>> 16) % 3;
                wanted[w] = new int[] {low, high, rank};
                x.want(low, high, rank);
            }
            for (int room = 1; room <= DEEPEST; room++) {
                x.bar(room, 0);
                compare(x, room);
            }
        }
    }

    private static int next(int seed) {
        return (seed * 1103515245 + 12345) & 0x7fffffff;
    }

    private static void compare(TapedShears x, int room) {
        bestCount = 0;
        bestLoss = room;
        bestRanks = 0;
        visit(room, 0, 0);
        Due.is("loss()", x.loss(), bestLoss);
        Due.is("pieces()", x.pieces(), bestCount);
        int begin = 0;
        for (int k = 0; k < bestCount && k < x.pieces(); k++) {
            Due.piece(x, k, best[2 * k], begin, best[2 * k + 1], 0);
            begin += best[2 * k + 1];
        }
    }

    /** Plans come in the order of their pieces, so that only a better one displaces an earlier one. */
    private static void visit(int left, int ranks, int count) {
        if (isBetter(left, ranks, count)) {
            bestLoss = left;
            bestRanks = ranks;
            bestCount = count;
            System.arraycopy(trial, 0, best, 0, 2 * count);
        }
        for (int w = 0; w < wanted.length; w++) {
            for (int steps = wanted[w][0]; steps <= wanted[w][1] && steps <= left; steps++) {
                trial[2 * count] = w;
                trial[2 * count + 1] = steps;
                visit(left - steps, ranks + wanted[w][2], count + 1);
            }
        }
    }

    private static boolean isBetter(int left, int ranks, int count) {
        if (left != bestLoss) {
            return left < bestLoss;
        }
        if (ranks != bestRanks) {
            return ranks > bestRanks;
        }
        return count < bestCount;
    }
}

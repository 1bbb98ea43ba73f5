/**
 * Shears behind a mill: plans the cuts of a bar with the least loss, cuts the plan piece by piece,
 * lays the pieces on a cooling bed and takes them from it in bundles.
 */
public final class CutShears {
    private static final int FIRST_LENGTH = 100;
    private static final int FIRST_PLACES = 10;
    private static final int MOST_STEPS = 200;
    private static final int MOST_WANTED = 6;
    private static final int MOST_RANK = 9;
    private static final int MOST_ERROR = 50;
    private static final int MOST_CROP = 100;
    private static final int MOST_CUTS = 300;
    private static final int MOST_PLACES = 20;
    private static final int MOST_IN_BUNDLE = 20;
    private static final int MOST_PER_TURN = 1000;
    private static final int THOUSANDTHS = 1000;
    private static final int NONE = -1;
    private static final int BUNDLED = -2;

    private final LossTable table;
    private final BarPlan plan;
    private final CutBook book;
    private final CoolingBed cooling;

    public CutShears() {
        table = new LossTable();
        plan = new BarPlan();
        book = new CutBook();
        cooling = new CoolingBed();
    }

    public int want(int low, int high, int rank) throws IllegalArgumentException, UnsupportedOperationException {
        requireRange(low, 1, MOST_STEPS);
        requireRange(high, low, MOST_STEPS);
        requireRange(rank, 0, MOST_RANK);
        int number = table.add(low, high, rank);
        plan.planRest(table);
        return number;
    }

    public void bar(int length, int error) throws IllegalArgumentException {
        requireRange(length, 1, MOST_STEPS);
        requireRange(error, 0, MOST_ERROR);
        plan.startBar(length, error);
        plan.planRest(table);
    }

    public void crop(int head, int tail) throws IllegalArgumentException, UnsupportedOperationException {
        requireRange(head, 0, MOST_CROP);
        requireRange(tail, 0, MOST_CROP);
        plan.changeCrops(head, tail);
        plan.planRest(table);
    }

    public void known(int length) throws IllegalArgumentException, UnsupportedOperationException {
        requireRange(length, 1, MOST_STEPS);
        plan.learnLength(length);
        plan.planRest(table);
    }

    public int pieces() {
        return plan.count;
    }

    public int piece(int k, int what) throws IndexOutOfBoundsException {
        requireIndex(k, plan.count);
        requireIndex(what, 4);
        switch (what) {
            case 0:
                return plan.wantedOf(k);
            case 1:
                return plan.beginOf(k);
            case 2:
                return plan.stepsOf(k);
            default:
                return k < plan.cutCount ? 1 : 0;
        }
    }

    public int loss() {
        return plan.rest;
    }

    public int cut() throws IllegalStateException, UnsupportedOperationException {
        int k = plan.cutCount;
        if (k >= plan.count) {
            throw new IllegalStateException("no piece is left to cut");
        }
        if (book.count >= MOST_CUTS) {
            throw new UnsupportedOperationException("300 pieces were cut");
        }
        int steps = plan.stepsOf(k);
        int place = cooling.lay(book.count, steps);
        book.enter(plan.wantedOf(k), steps, place);
        plan.markNextCut();
        return place;
    }

    public void bed(int places, int longest) throws IllegalStateException, IllegalArgumentException {
        if (cooling.lying > 0) {
            throw new IllegalStateException("the bed is not empty");
        }
        requireRange(places, 1, MOST_PLACES);
        requireRange(longest, 1, MOST_STEPS);
        cooling.places = places;
        cooling.longest = longest;
    }

    public int at(int place) throws IndexOutOfBoundsException {
        requireIndex(place, cooling.places);
        return cooling.cutOn(place);
    }

    public int bundle(int wanted, int n)
            throws IndexOutOfBoundsException, IllegalArgumentException, UnsupportedOperationException {
        requireIndex(wanted, table.count);
        requireRange(n, 1, MOST_IN_BUNDLE);
        if (book.countOnBed(wanted) < n) {
            throw new UnsupportedOperationException("there are not so many on the bed");
        }
        return book.takeBundle(wanted, n, cooling);
    }

    public int cutAt(int c, int what) throws IndexOutOfBoundsException {
        requireIndex(c, book.count);
        requireIndex(what, 4);
        return book.tell(c, what);
    }

    public int blade(int k, int perTurn, int part) throws IndexOutOfBoundsException, IllegalArgumentException {
        requireIndex(k, plan.count);
        requireIndex(part, 2);
        requireRange(perTurn, 1, MOST_PER_TURN);
        int time = thousandthsOfTurns(plan.beginOf(k) + plan.stepsOf(k), perTurn);
        return part == 0 ? time / THOUSANDTHS : time % THOUSANDTHS;
    }

    public int sum(int wanted) throws IndexOutOfBoundsException {
        requireIndex(wanted, table.count);
        return book.sumOf(wanted);
    }

    public int side(int k) throws IndexOutOfBoundsException {
        if (k < 0) {
            throw new IndexOutOfBoundsException("no such cut at the side");
        }
        return book.sideCut(k);
    }

    /** Both sides are doubled, so that the half that is added before the division is a whole number. */
    private static int thousandthsOfTurns(int steps, int perTurn) {
        if (perTurn < 1) {
            return 0;
        }
        return (2 * THOUSANDTHS * steps + perTurn) / (2 * perTurn);
    }

    private static void requireIndex(int index, int count) {
        if (index < 0 || index >= count) {
            throw new IndexOutOfBoundsException("no such number");
        }
    }

    private static void requireRange(int number, int least, int most) {
        if (number < least || number > most) {
            throw new IllegalArgumentException("a number is out of its range");
        }
    }

    /** An index that stands outside its row has no number there. */
    private static int numberAt(int[] row, int index) {
        return index < 0 || index >= row.length ? NONE : row[index];
    }

    /**
     * The wanted lengths, and the first piece of the best plan for each room. It depends on the wanted
     * lengths alone, so that planning anew on whatever is left of a bar is but a walk through it.
     */
    private static final class LossTable {
        /* A plan's cost is one number: a step of loss outweighs all ranks of a bar (at most 200 pieces
           of rank 9), and a rank outweighs all its pieces. */
        private static final int LOSS_COST = 1 << 20;
        private static final int RANK_GAIN = 1 << 8;
        private static final int PIECE_COST = 1;

        private final int[] lows = new int[MOST_WANTED];
        private final int[] highs = new int[MOST_WANTED];
        private final int[] ranks = new int[MOST_WANTED];
        private final int[] costs = new int[MOST_STEPS + 1];
        private final int[] firstWanted = new int[MOST_STEPS + 1];
        private final int[] firstSteps = new int[MOST_STEPS + 1];
        private int count = 0;

        private int add(int low, int high, int rank) {
            if (count >= MOST_WANTED) {
                throw new UnsupportedOperationException("there are 6 wanted lengths");
            }
            lows[count] = low;
            highs[count] = high;
            ranks[count] = rank;
            count++;
            fill();
            return count - 1;
        }

        private void fill() {
            for (int room = 0; room <= MOST_STEPS; room++) {
                costs[room] = room * LOSS_COST;
                firstWanted[room] = NONE;
                firstSteps[room] = 0;
                for (int wanted = 0; wanted < count; wanted++) {
                    tryFirst(room, wanted);
                }
            }
        }

        /** Only a lower cost displaces an earlier find: of equal plans the lowest and shortest stays. */
        private void tryFirst(int room, int wanted) {
            int longest = Math.min(highs[wanted], room);
            int own = PIECE_COST - ranks[wanted] * RANK_GAIN;
            for (int steps = lows[wanted]; steps <= longest; steps++) {
                int cost = costs[room - steps] + own;
                if (cost < costs[room]) {
                    costs[room] = cost;
                    firstWanted[room] = wanted;
                    firstSteps[room] = steps;
                }
            }
        }
    }

    /** The bar under the shears and its plan: the cut pieces first, behind them what is planned. */
    private static final class BarPlan {
        private final int[] wanted = new int[MOST_STEPS];
        private final int[] begins = new int[MOST_STEPS];
        private final int[] steps = new int[MOST_STEPS];
        private int length = FIRST_LENGTH;
        private int error = 0;
        private int head = 0;
        private int tail = 0;
        private int count = 0;
        private int cutCount = 0;
        private int cutSteps = 0;
        private int rest = FIRST_LENGTH;

        private void startBar(int newLength, int newError) {
            length = newLength;
            error = newError;
            cutCount = 0;
            cutSteps = 0;
        }

        private void changeCrops(int newHead, int newTail) {
            if (cutCount > 0 && newHead != head) {
                throw new UnsupportedOperationException("the head can not change behind a cut");
            }
            requireCutsFit(roomOf(length, error, newHead, newTail));
            head = newHead;
            tail = newTail;
        }

        private void learnLength(int newLength) {
            requireCutsFit(roomOf(newLength, 0, head, tail));
            length = newLength;
            error = 0;
        }

        private void requireCutsFit(int room) {
            if (cutSteps > room) {
                throw new UnsupportedOperationException("the cuts would not fit any more");
            }
        }

        private static int roomOf(int length, int error, int head, int tail) {
            return Math.max(0, length - error - head - tail);
        }

        private void planRest(LossTable table) {
            int left = roomOf(length, error, head, tail) - cutSteps;
            int begin = head + cutSteps;
            count = cutCount;
            for (int k = cutCount; k < MOST_STEPS; k++) {
                int next = numberAt(table.firstSteps, left);
                if (next < 1) {
                    break;
                }
                wanted[k] = numberAt(table.firstWanted, left);
                begins[k] = begin;
                steps[k] = next;
                begin += next;
                left -= next;
                count = k + 1;
            }
            rest = left;
        }

        private void markNextCut() {
            if (cutCount < count) {
                cutSteps += stepsOf(cutCount);
                cutCount++;
            }
        }

        private int wantedOf(int k) {
            return numberAt(wanted, k);
        }

        private int beginOf(int k) {
            return numberAt(begins, k);
        }

        private int stepsOf(int k) {
            return numberAt(steps, k);
        }
    }

    /** All cuts over all bars, by their numbers. */
    private static final class CutBook {
        private final int[] wanted = new int[MOST_CUTS];
        private final int[] steps = new int[MOST_CUTS];
        private final int[] places = new int[MOST_CUTS];
        private final int[] bundles = new int[MOST_CUTS];
        private final int[] sideCuts = new int[MOST_CUTS];
        private final int[] sums = new int[MOST_WANTED];
        private int count = 0;
        private int sideCount = 0;
        private int bundleCount = 0;

        private void enter(int ofWanted, int ofSteps, int place) {
            if (count >= MOST_CUTS || ofWanted < 0 || ofWanted >= MOST_WANTED) {
                return;
            }
            wanted[count] = ofWanted;
            steps[count] = ofSteps;
            places[count] = place;
            bundles[count] = NONE;
            sums[ofWanted] += ofSteps;
            if (place == NONE && sideCount < MOST_CUTS) {
                sideCuts[sideCount] = count;
                sideCount++;
            }
            count++;
        }

        private int tell(int c, int what) {
            switch (what) {
                case 0:
                    return numberAt(wanted, c);
                case 1:
                    return numberAt(steps, c);
                case 2:
                    return numberAt(places, c);
                default:
                    return numberAt(bundles, c);
            }
        }

        private int sumOf(int ofWanted) {
            return numberAt(sums, ofWanted);
        }

        private int sideCut(int k) {
            return k < sideCount ? numberAt(sideCuts, k) : NONE;
        }

        private boolean isOnBed(int c, int ofWanted) {
            return wanted[c] == ofWanted && places[c] >= 0;
        }

        private int countOnBed(int ofWanted) {
            int found = 0;
            for (int c = 0; c < count; c++) {
                if (isOnBed(c, ofWanted)) {
                    found++;
                }
            }
            return found;
        }

        private int takeBundle(int ofWanted, int n, CoolingBed from) {
            int taken = 0;
            for (int c = 0; c < count && taken < n; c++) {
                if (isOnBed(c, ofWanted)) {
                    from.free(places[c]);
                    places[c] = BUNDLED;
                    bundles[c] = bundleCount;
                    taken++;
                }
            }
            bundleCount++;
            return bundleCount;
        }
    }

    /** The places of the bed, each with the number of the cut that lies there. */
    private static final class CoolingBed {
        private final int[] cuts = new int[MOST_PLACES];
        private int places = FIRST_PLACES;
        private int longest = MOST_STEPS;
        private int lying = 0;

        private CoolingBed() {
            for (int place = 0; place < MOST_PLACES; place++) {
                cuts[place] = NONE;
            }
        }

        private int lay(int c, int steps) {
            if (steps > longest) {
                return NONE;
            }
            for (int place = 0; place < places; place++) {
                if (cuts[place] == NONE) {
                    cuts[place] = c;
                    lying++;
                    return place;
                }
            }
            return NONE;
        }

        private int cutOn(int place) {
            return numberAt(cuts, place);
        }

        private void free(int place) {
            if (place < 0 || place >= MOST_PLACES || cuts[place] == NONE) {
                return;
            }
            cuts[place] = NONE;
            lying--;
        }
    }
}

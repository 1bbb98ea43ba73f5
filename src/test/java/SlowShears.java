import java.util.ArrayList;
import java.util.List;

/**
 * The document in its plainest form: lists of everything, planned anew at every look. A plan is a list
 * of {wanted length, steps}, and whole plans are compared by the words of the document.
 */
final class SlowShears {
    private static final class Made {
        int wanted;
        int steps;
        int place;
        int bundle = -1;
    }

    private final List<int[]> wants = new ArrayList<>();
    private final List<int[]> onBar = new ArrayList<>();
    private final List<Made> made = new ArrayList<>();
    private final List<List<int[]>> bestFor = new ArrayList<>();
    private int length = 100;
    private int error = 0;
    private int head = 0;
    private int tail = 0;
    private int places = 10;
    private int longest = 200;
    private int bundles = 0;

    long call(int method, int a, int b, int c) {
        switch (method) {
            case 0: return want(a, b, c);
            case 1: return bar(a, b);
            case 2: return crop(a, b);
            case 3: return known(a);
            case 4: return plan().size();
            case 5: return piece(a, b);
            case 6: return loss();
            case 7: return cut();
            case 8: return bed(a, b);
            case 9: return at(a);
            case 10: return bundle(a, b);
            case 11: return cutAt(a, b);
            case 12: return blade(a, b, c);
            case 13: return sum(a);
            default: return side(a);
        }
    }

    int cuts() {
        return made.size();
    }

    int wanted() {
        return wants.size();
    }

    int places() {
        return places;
    }

    private long want(int low, int high, int rank) {
        range(low >= 1 && low <= 200 && high >= 1 && high <= 200 && low <= high && rank >= 0 && rank <= 9);
        meaning(wants.size() < 6);
        wants.add(new int[] {low, high, rank});
        bestFor.clear();
        return wants.size() - 1;
    }

    private long bar(int newLength, int newError) {
        range(newLength >= 1 && newLength <= 200 && newError >= 0 && newError <= 50);
        length = newLength;
        error = newError;
        onBar.clear();
        return 0;
    }

    private long crop(int newHead, int newTail) {
        range(newHead >= 0 && newHead <= 100 && newTail >= 0 && newTail <= 100);
        if (!onBar.isEmpty()) {
            meaning(newHead == head);
            meaning(newHead + cutSteps() <= length - error - newTail);
        }
        head = newHead;
        tail = newTail;
        return 0;
    }

    private long known(int newLength) {
        range(newLength >= 1 && newLength <= 200);
        if (!onBar.isEmpty()) {
            meaning(head + cutSteps() <= newLength - tail);
        }
        length = newLength;
        error = 0;
        return 0;
    }

    private long piece(int k, int what) {
        List<int[]> plan = plan();
        index(k >= 0 && k < plan.size() && what >= 0 && what < 4);
        switch (what) {
            case 0: return plan.get(k)[0];
            case 1: return endOf(plan, k) - plan.get(k)[1];
            case 2: return plan.get(k)[1];
            default: return k < onBar.size() ? 1 : 0;
        }
    }

    private long loss() {
        int left = room();
        for (int[] p : plan()) {
            left -= p[1];
        }
        return left;
    }

    private long cut() {
        List<int[]> plan = plan();
        if (plan.size() == onBar.size()) {
            throw new IllegalStateException();
        }
        meaning(made.size() < 300);
        int[] next = plan.get(onBar.size());
        Made m = new Made();
        m.wanted = next[0];
        m.steps = next[1];
        m.place = next[1] > longest ? -1 : freePlace();
        onBar.add(next);
        made.add(m);
        return m.place;
    }

    private long bed(int newPlaces, int newLongest) {
        for (Made m : made) {
            if (m.place >= 0) {
                throw new IllegalStateException();
            }
        }
        range(newPlaces >= 1 && newPlaces <= 20 && newLongest >= 1 && newLongest <= 200);
        places = newPlaces;
        longest = newLongest;
        return 0;
    }

    private long at(int place) {
        index(place >= 0 && place < places);
        return lyingAt(place);
    }

    private long bundle(int wanted, int n) {
        index(wanted >= 0 && wanted < wants.size());
        range(n >= 1 && n <= 20);
        List<Made> there = new ArrayList<>();
        for (Made m : made) {
            if (m.wanted == wanted && m.place >= 0) {
                there.add(m);
            }
        }
        meaning(there.size() >= n);
        for (Made m : there.subList(0, n)) {
            m.place = -2;
            m.bundle = bundles;
        }
        return ++bundles;
    }

    private long cutAt(int c, int what) {
        index(c >= 0 && c < made.size() && what >= 0 && what < 4);
        Made m = made.get(c);
        return new int[] {m.wanted, m.steps, m.place, m.bundle}[what];
    }

    private long blade(int k, int perTurn, int part) {
        List<int[]> plan = plan();
        index(k >= 0 && k < plan.size() && part >= 0 && part < 2);
        range(perTurn >= 1 && perTurn <= 1000);
        int end = endOf(plan, k);
        int turns = end / perTurn;
        int over = end % perTurn * 1000;
        int thousandths = over / perTurn;
        if (over % perTurn * 2 >= perTurn) {
            thousandths++;
        }
        return part == 0 ? turns + thousandths / 1000 : thousandths % 1000;
    }

    private long sum(int wanted) {
        index(wanted >= 0 && wanted < wants.size());
        long steps = 0;
        for (Made m : made) {
            steps += m.wanted == wanted ? m.steps : 0;
        }
        return steps;
    }

    private long side(int k) {
        index(k >= 0);
        int before = 0;
        for (int c = 0; c < made.size(); c++) {
            if (made.get(c).place == -1 && before++ == k) {
                return c;
            }
        }
        return -1;
    }

    private int freePlace() {
        for (int place = 0; place < places; place++) {
            if (lyingAt(place) == -1) {
                return place;
            }
        }
        return -1;
    }

    private int lyingAt(int place) {
        for (int c = 0; c < made.size(); c++) {
            if (made.get(c).place == place) {
                return c;
            }
        }
        return -1;
    }

    private int room() {
        return Math.max(0, length - error - head - tail);
    }

    private int cutSteps() {
        int steps = 0;
        for (int[] p : onBar) {
            steps += p[1];
        }
        return steps;
    }

    private int endOf(List<int[]> plan, int k) {
        int end = head;
        for (int[] p : plan.subList(0, k + 1)) {
            end += p[1];
        }
        return end;
    }

    private List<int[]> plan() {
        List<int[]> plan = new ArrayList<>(onBar);
        plan.addAll(best(room() - cutSteps()));
        return plan;
    }

    private List<int[]> best(int room) {
        while (bestFor.size() <= room) {
            int next = bestFor.size();
            List<int[]> best = new ArrayList<>();
            for (int w = 0; w < wants.size(); w++) {
                for (int steps = wants.get(w)[0]; steps <= wants.get(w)[1] && steps <= next; steps++) {
                    List<int[]> trial = new ArrayList<>();
                    trial.add(new int[] {w, steps});
                    trial.addAll(bestFor.get(next - steps));
                    best = compare(trial, best) < 0 ? trial : best;
                }
            }
            bestFor.add(best);
        }
        return bestFor.get(room);
    }

    private int compare(List<int[]> p, List<int[]> q) {
        int steps = 0;
        int ranks = 0;
        for (int[] a : p) {
            steps += a[1];
            ranks += wants.get(a[0])[2];
        }
        for (int[] a : q) {
            steps -= a[1];
            ranks -= wants.get(a[0])[2];
        }
        if (steps != 0) {
            return -steps;
        }
        if (ranks != 0) {
            return -ranks;
        }
        return p.size() != q.size() ? p.size() - q.size() : firstDifference(p, q);
    }

    private static int firstDifference(List<int[]> p, List<int[]> q) {
        for (int k = 0; k < p.size(); k++) {
            for (int i = 0; i < 2; i++) {
                if (p.get(k)[i] != q.get(k)[i]) {
                    return p.get(k)[i] - q.get(k)[i];
                }
            }
        }
        return 0;
    }

    private static void index(boolean so) {
        if (!so) {
            throw new IndexOutOfBoundsException();
        }
    }

    private static void range(boolean so) {
        if (!so) {
            throw new IllegalArgumentException();
        }
    }

    private static void meaning(boolean so) {
        if (!so) {
            throw new UnsupportedOperationException();
        }
    }
}

import java.util.ArrayList;
import java.util.List;

/** The document's words, done the slow way: every order is written down and looked at. */
final class Model {
    private static final int UNKNOWN = -1, OUTSIDE = -2, STATE = -3, NONE = -6;

    private int many = 4;
    private boolean[][] has = new boolean[8][10];
    private boolean[][] known = new boolean[8][8];
    private int[] row = {0, 1, 2, 3};
    private final Model[] images = new Model[2];
    private List<int[]> bestOrders = null;

    private boolean grave(int g) {
        return g >= 0 && g < many;
    }

    // ---- orders

    private int breaksOfSort(int[] order, int sort) {
        int runs = 0;
        boolean inRun = false;
        for (int g : order) {
            if (has[g][sort] && !inRun) {
                runs++;
            }
            inRun = has[g][sort];
        }
        return runs == 0 ? 0 : runs - 1;
    }

    private int breaksOf(int[] order) {
        int sum = 0;
        for (int s = 0; s < 10; s++) {
            sum += breaksOfSort(order, s);
        }
        return sum;
    }

    private static int placeIn(int[] order, int g) {
        for (int p = 0; p < order.length; p++) {
            if (order[p] == g) {
                return p;
            }
        }
        throw new IllegalStateException("not in the order: " + g);
    }

    private boolean allowed(int[] order) {
        for (int a = 0; a < many; a++) {
            for (int b = 0; b < many; b++) {
                if (known[a][b] && placeIn(order, a) > placeIn(order, b)) {
                    return false;
                }
            }
        }
        return true;
    }

    private void allOrders(int[] order, int filled, int used, List<int[]> into) {
        if (filled == many) {
            into.add(order.clone());
            return;
        }
        for (int g = 0; g < many; g++) {
            if ((used >> g & 1) == 0) {
                order[filled] = g;
                allOrders(order, filled + 1, used | 1 << g, into);
            }
        }
    }

    List<int[]> bests() {
        if (bestOrders == null) {
            List<int[]> all = new ArrayList<>();
            allOrders(new int[many], 0, 0, all);
            List<int[]> found = new ArrayList<>();
            int fewest = Integer.MAX_VALUE;
            for (int[] order : all) {
                if (!allowed(order)) {
                    continue;
                }
                int breaks = breaksOf(order);
                if (breaks < fewest) {
                    fewest = breaks;
                    found.clear();
                }
                if (breaks == fewest) {
                    found.add(order);
                }
            }
            bestOrders = found;
        }
        return bestOrders;
    }

    /** A plain sort by neighbours makes as many swaps as are needed and no more. */
    private static int steps(int[] from, int[] to) {
        int[] at = from.clone();
        int made = 0;
        for (int p = 0; p < to.length; p++) {
            for (int q = placeIn(at, to[p]); q > p; q--) {
                int moved = at[q];
                at[q] = at[q - 1];
                at[q - 1] = moved;
                made++;
            }
        }
        return made;
    }

    private int[] nearestOrder() {
        int[] found = null;
        for (int[] order : bests()) {
            if (found == null || steps(row, order) < steps(row, found)) {
                found = order;
            }
        }
        return found;
    }

    private static boolean liesTogether(int[] order, int set) {
        int first = Integer.MAX_VALUE;
        int last = -1;
        int members = 0;
        for (int p = 0; p < order.length; p++) {
            if ((set >> order[p] & 1) != 0) {
                first = Math.min(first, p);
                last = p;
                members++;
            }
        }
        return last - first + 1 == members;
    }

    // ---- the calls

    int many(int n) {
        if (n < 1 || n > 8) {
            return OUTSIDE;
        }
        int were = many;
        many = n;
        row = new int[n];
        for (int g = 0; g < 8; g++) {
            if (g < n) {
                row[g] = g;
            } else {
                has[g] = new boolean[10];
                known[g] = new boolean[8];
                for (int h = 0; h < 8; h++) {
                    known[h][g] = false;
                }
            }
        }
        bestOrders = null;
        return were;
    }

    int find(int g, int sort, int on) {
        if (!grave(g)) {
            return UNKNOWN;
        }
        if (sort < 0 || sort > 9) {
            return UNKNOWN;
        }
        if (on < 0 || on > 1) {
            return OUTSIDE;
        }
        has[g][sort] = on == 1;
        bestOrders = null;
        return alike(g, g);
    }

    int ahead(int one, int other, int on) {
        if (!grave(one) || !grave(other)) {
            return UNKNOWN;
        }
        if (on < 0 || on > 1 || one == other) {
            return OUTSIDE;
        }
        known[one][other] = on == 1;
        bestOrders = null;
        return count(2);
    }

    int grave(int g, int what) {
        if (!grave(g)) {
            return UNKNOWN;
        }
        int set = 0;
        switch (what) {
            case 0:
                for (int s = 0; s < 10; s++) {
                    set += has[g][s] ? 1 << s : 0;
                }
                return set;
            case 1:
                for (int h = 0; h < many; h++) {
                    set += known[g][h] ? 1 << h : 0;
                }
                return set;
            case 2:
                for (int h = 0; h < many; h++) {
                    set += known[h][g] ? 1 << h : 0;
                }
                return set;
            case 3:
                return placeIn(row, g);
            default:
                return OUTSIDE;
        }
    }

    int sort(int sort, int what) {
        if (sort < 0 || sort > 9) {
            return UNKNOWN;
        }
        if (what == 0) {
            int n = 0;
            for (int g = 0; g < many; g++) {
                n += has[g][sort] ? 1 : 0;
            }
            return n;
        }
        if (what == 1) {
            return breaksOfSort(row, sort);
        }
        if (what != 2) {
            return OUTSIDE;
        }
        int fewest = NONE;
        for (int[] order : bests()) {
            int breaks = breaksOfSort(order, sort);
            fewest = fewest == NONE ? breaks : Math.min(fewest, breaks);
        }
        return fewest;
    }

    int alike(int one, int other) {
        if (!grave(one) || !grave(other)) {
            return UNKNOWN;
        }
        int n = 0;
        for (int s = 0; s < 10; s++) {
            n += has[one][s] && has[other][s] ? 1 : 0;
        }
        return n;
    }

    int least() {
        return bests().isEmpty() ? NONE : breaksOf(bests().get(0));
    }

    int best() {
        return bests().size();
    }

    int order(int i, int place) {
        if (i < 0 || !grave(place)) {
            return OUTSIDE;
        }
        return i < bests().size() ? bests().get(i)[place] : NONE;
    }

    int beside(int g, int what) {
        if (!grave(g)) {
            return UNKNOWN;
        }
        if (what != 0 && what != 1) {
            return OUTSIDE;
        }
        int inAll = (1 << many) - 1;
        int inAny = 0;
        for (int[] order : bests()) {
            int p = placeIn(order, g);
            int here = (p > 0 ? 1 << order[p - 1] : 0) | (p < many - 1 ? 1 << order[p + 1] : 0);
            inAll &= here;
            inAny |= here;
        }
        return what == 1 ? inAny : bests().isEmpty() ? 0 : inAll;
    }

    int place(int g, int what) {
        if (!grave(g)) {
            return UNKNOWN;
        }
        if (what != 0 && what != 1 && (what < 10 || what >= 10 + many)) {
            return OUTSIDE;
        }
        int low = NONE;
        int high = NONE;
        int n = 0;
        for (int[] order : bests()) {
            int p = placeIn(order, g);
            low = low == NONE ? p : Math.min(low, p);
            high = Math.max(high, p);
            n += p == what - 10 ? 1 : 0;
        }
        return what == 0 ? low : what == 1 ? high : n;
    }

    int before(int one, int other) {
        if (!grave(one) || !grave(other)) {
            return UNKNOWN;
        }
        if (one == other) {
            return OUTSIDE;
        }
        int n = 0;
        for (int[] order : bests()) {
            n += placeIn(order, one) < placeIn(order, other) ? 1 : 0;
        }
        return n;
    }

    int together(int set) {
        if (set <= 0 || set >= 1 << many) {
            return OUTSIDE;
        }
        int n = 0;
        for (int[] order : bests()) {
            n += liesTogether(order, set) ? 1 : 0;
        }
        return n;
    }

    int clump(int i) {
        if (i < -1) {
            return OUTSIDE;
        }
        List<Integer> found = new ArrayList<>();
        for (int set = 0; set < 1 << many; set++) {
            boolean inAll = Integer.bitCount(set) >= 2 && !bests().isEmpty();
            for (int[] order : bests()) {
                if (!inAll) {
                    break;
                }
                inAll = liesTogether(order, set);
            }
            if (inAll) {
                found.add(set);
            }
        }
        return i == -1 ? found.size() : i < found.size() ? found.get(i) : NONE;
    }

    int row(int place) {
        return grave(place) ? row[place] : OUTSIDE;
    }

    int breaks(int what) {
        switch (what) {
            case 0:
                return breaksOf(row);
            case 1:
                return allowed(row) ? 1 : 0;
            case 2:
                for (int[] order : bests()) {
                    if (java.util.Arrays.equals(order, row)) {
                        return 1;
                    }
                }
                return 0;
            default:
                return OUTSIDE;
        }
    }

    int swap(int k) {
        if (k < 0 || k > many - 2) {
            return OUTSIDE;
        }
        int moved = row[k];
        row[k] = row[k + 1];
        row[k + 1] = moved;
        return breaksOf(row);
    }

    int better() {
        int now = breaksOf(row);
        int found = NONE;
        int fewest = now;
        for (int k = 0; k + 1 < many; k++) {
            int then = swap(k);
            swap(k);
            if (then < now && then < fewest) {
                found = k;
                fewest = then;
            }
        }
        if (found != NONE) {
            swap(found);
        }
        return found;
    }

    int climb() {
        int made = 0;
        while (better() != NONE) {
            made++;
        }
        return made;
    }

    int nearest(int place) {
        if (place < -1 || place >= many) {
            return OUTSIDE;
        }
        int[] found = nearestOrder();
        return found == null ? NONE : place == -1 ? steps(row, found) : found[place];
    }

    int settle() {
        int[] found = nearestOrder();
        if (found == null) {
            return STATE;
        }
        int made = steps(row, found);
        row = found.clone();
        return made;
    }

    int count(int what) {
        int n = 0;
        switch (what) {
            case 0:
                return many;
            case 1:
                for (int s = 0; s < 10; s++) {
                    n += sort(s, 0);
                }
                return n;
            case 2:
                for (int a = 0; a < many; a++) {
                    n += Integer.bitCount(grave(a, 1));
                }
                return n;
            case 3:
                return (images[0] != null ? 1 : 0) + (images[1] != null ? 2 : 0);
            default:
                return OUTSIDE;
        }
    }

    int image(int k) {
        if (k != 0 && k != 1) {
            return OUTSIDE;
        }
        Model copy = new Model();
        copy.take(this);
        images[k] = copy;
        return 1;
    }

    int restore(int k) {
        if (k != 0 && k != 1) {
            return OUTSIDE;
        }
        if (images[k] == null) {
            return STATE;
        }
        take(images[k]);
        return 1;
    }

    private void take(Model from) {
        many = from.many;
        row = from.row.clone();
        for (int g = 0; g < 8; g++) {
            has[g] = from.has[g].clone();
            known[g] = from.known[g].clone();
        }
        bestOrders = null;
    }
}

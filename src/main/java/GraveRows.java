/**
 * Graves in a row: orders of graves in which each sort of find lies together as well as can be.
 *
 * <p>A set is a number: bit i tells whether i is in it.
 */
public final class GraveRows {
    public static final int UNKNOWN = -1, OUTSIDE = -2, STATE = -3, NO = -5, NONE = -6;

    private static final int MOST_GRAVES = 8, GRAVES_AT_FIRST = 4, SORTS = 10, IMAGES = 2;
    private static final int ALL_SORTS = (1 << SORTS) - 1;
    private static final int SETS = 1 << MOST_GRAVES;
    private static final int COUNT_AT_PLACE = 10;
    // Each good swap takes a break away, and ten sorts in eight graves have thirty at most.
    private static final int MOST_GOOD_SWAPS = 1000;

    private final Dig dig;
    private final Dig[] kept;
    private int keptImages;
    private final BestOrders bestOrders;
    private boolean bestKnown;
    private boolean wayKnown;

    public GraveRows() {
        dig = new Dig();
        kept = new Dig[IMAGES];
        for (int k = 0; k < IMAGES; k++) {
            kept[k] = new Dig();
        }
        keptImages = 0;
        bestOrders = new BestOrders();
        bestKnown = false;
        wayKnown = false;
    }

    // ---- 1 graves

    public int many(int n) {
        if (n < 1 || n > MOST_GRAVES) {
            return OUTSIDE;
        }
        int were = dig.size;
        dig.resize(n);
        forgetBest();
        return were;
    }

    public int find(int grave, int sort, int on) {
        if (!isGrave(grave) || !isSort(sort)) {
            return UNKNOWN;
        }
        if (!isOnOrOff(on)) {
            return OUTSIDE;
        }
        dig.held[grave] = withMember(dig.held[grave], sort, on);
        forgetBest();
        return Integer.bitCount(dig.held[grave]);
    }

    public int ahead(int one, int other, int on) {
        if (!isGrave(one) || !isGrave(other)) {
            return UNKNOWN;
        }
        if (!isOnOrOff(on) || one == other) {
            return OUTSIDE;
        }
        dig.later[one] = withMember(dig.later[one], other, on);
        forgetBest();
        return membersOfAll(dig.later);
    }

    public int grave(int grave, int what) {
        if (!isGrave(grave)) {
            return UNKNOWN;
        }
        switch (what) {
            case 0:
                return dig.held[grave];
            case 1:
                return dig.later[grave];
            case 2:
                return dig.earlierThan(grave);
            case 3:
                return dig.placeInLine(grave);
            default:
                return OUTSIDE;
        }
    }

    public int sort(int sort, int what) {
        if (!isSort(sort)) {
            return UNKNOWN;
        }
        switch (what) {
            case 0:
                return dig.gravesWith(sort);
            case 1:
                return dig.lineBreaks(1 << sort);
            case 2:
                return knownBest().fewestBreaksOf(sort, dig);
            default:
                return OUTSIDE;
        }
    }

    public int alike(int one, int other) {
        if (!isGrave(one) || !isGrave(other)) {
            return UNKNOWN;
        }
        return Integer.bitCount(dig.held[one] & dig.held[other]);
    }

    // ---- 2 best orders

    public int least() {
        BestOrders all = knownBest();
        return all.total() == 0 ? NONE : all.fewestBreaks;
    }

    public int best() {
        return knownBest().total();
    }

    public int order(int i, int place) {
        if (i < 0 || !isPlace(place)) {
            return OUTSIDE;
        }
        BestOrders all = knownBest();
        return i >= all.total() ? NONE : all.graveAt(i, place);
    }

    public int beside(int grave, int what) {
        if (!isGrave(grave)) {
            return UNKNOWN;
        }
        if (what != 0 && what != 1) {
            return OUTSIDE;
        }
        BestOrders all = knownBest();
        if (all.total() == 0) {
            return 0;
        }
        return all.neighboursOf(grave, what == 0 ? all.total() : 1);
    }

    public int place(int grave, int what) {
        if (!isGrave(grave)) {
            return UNKNOWN;
        }
        if (what == 0) {
            return knownBest().leastPlaceOf(grave);
        }
        if (what == 1) {
            return knownBest().greatestPlaceOf(grave);
        }
        if (what < COUNT_AT_PLACE || !isPlace(what - COUNT_AT_PLACE)) {
            return OUTSIDE;
        }
        return knownBest().ordersWithAt(grave, what - COUNT_AT_PLACE);
    }

    public int before(int one, int other) {
        if (!isGrave(one) || !isGrave(other)) {
            return UNKNOWN;
        }
        if (one == other) {
            return OUTSIDE;
        }
        return knownBest().ordersWithFirst(one, other);
    }

    public int together(int set) {
        if (set < 1 || set >= 1 << dig.size) {
            return OUTSIDE;
        }
        return knownBest().ordersWithTogether(set);
    }

    public int clump(int i) {
        if (i < -1) {
            return OUTSIDE;
        }
        BestOrders all = knownBest();
        all.gatherClumps();
        if (i == -1) {
            return all.clumpCount;
        }
        return i < all.clumpCount ? all.clumps[i] : NONE;
    }

    // ---- 3 the row

    public int row(int place) {
        return isPlace(place) ? dig.line[place] : OUTSIDE;
    }

    public int breaks(int what) {
        switch (what) {
            case 0:
                return dig.lineBreaks(ALL_SORTS);
            case 1:
                return dig.lineIsAllowed() ? 1 : 0;
            case 2:
                return lineIsBest() ? 1 : 0;
            default:
                return OUTSIDE;
        }
    }

    public int swap(int k) {
        if (k < 0 || k >= dig.size - 1) {
            return OUTSIDE;
        }
        dig.exchange(k);
        wayKnown = false;
        return dig.lineBreaks(ALL_SORTS);
    }

    public int better() {
        return makeBestSwap();
    }

    public int climb() {
        int made = 0;
        while (made < MOST_GOOD_SWAPS && makeBestSwap() != NONE) {
            made++;
        }
        return made;
    }

    public int nearest(int place) {
        if (place != -1 && !isPlace(place)) {
            return OUTSIDE;
        }
        BestOrders all = knownBest();
        if (all.total() == 0) {
            return NONE;
        }
        knowWay(all);
        return place == -1 ? all.steps : all.goal[place];
    }

    public int settle() {
        BestOrders all = knownBest();
        if (all.total() == 0) {
            return STATE;
        }
        knowWay(all);
        int made = all.steps;
        System.arraycopy(all.goal, 0, dig.line, 0, dig.size);
        wayKnown = false;
        return made;
    }

    public int count(int what) {
        switch (what) {
            case 0:
                return dig.size;
            case 1:
                return membersOfAll(dig.held);
            case 2:
                return membersOfAll(dig.later);
            case 3:
                return keptImages;
            default:
                return OUTSIDE;
        }
    }

    // ---- 4 images

    public int image(int k) {
        if (!isImage(k)) {
            return OUTSIDE;
        }
        kept[k].become(dig);
        keptImages = withMember(keptImages, k, 1);
        return 1;
    }

    public int restore(int k) {
        if (!isImage(k)) {
            return OUTSIDE;
        }
        if (!isMember(keptImages, k)) {
            return STATE;
        }
        dig.become(kept[k]);
        forgetBest();
        return 1;
    }

    // ---- what the calls share

    private boolean isGrave(int grave) {
        return grave >= 0 && grave < dig.size;
    }

    private boolean isPlace(int place) {
        return place >= 0 && place < dig.size;
    }

    private static boolean isSort(int sort) {
        return sort >= 0 && sort < SORTS;
    }

    private static boolean isOnOrOff(int on) {
        return on == 0 || on == 1;
    }

    private static boolean isImage(int k) {
        return k >= 0 && k < IMAGES;
    }

    private static boolean isMember(int set, int i) {
        return (set >> i & 1) != 0;
    }

    private static int withMember(int set, int i, int on) {
        return set & ~(1 << i) | on << i;
    }

    private static int membersOfAll(int[] sets) {
        int members = 0;
        for (int set : sets) {
            members += Integer.bitCount(set);
        }
        return members;
    }

    private void forgetBest() {
        bestKnown = false;
        wayKnown = false;
    }

    private BestOrders knownBest() {
        if (!bestKnown) {
            bestOrders.search(dig);
            bestKnown = true;
        }
        return bestOrders;
    }

    private void knowWay(BestOrders all) {
        if (!wayKnown) {
            all.seekGoal(dig);
            wayKnown = true;
        }
    }

    private boolean lineIsBest() {
        BestOrders all = knownBest();
        return all.total() > 0 && dig.lineIsAllowed()
            && dig.lineBreaks(ALL_SORTS) == all.fewestBreaks;
    }

    private int makeBestSwap() {
        int k = dig.bestExchange();
        if (k != NONE) {
            dig.exchange(k);
            wayKnown = false;
        }
        return k;
    }

    /** All that an image keeps. What graves that are not there hold and know is empty. */
    private static final class Dig {
        int size;
        final int[] held;
        final int[] later;
        final int[] line;

        Dig() {
            size = GRAVES_AT_FIRST;
            held = new int[MOST_GRAVES];
            later = new int[MOST_GRAVES];
            line = new int[MOST_GRAVES];
            for (int g = 0; g < MOST_GRAVES; g++) {
                line[g] = g;
            }
        }

        void resize(int n) {
            size = n;
            for (int g = 0; g < MOST_GRAVES; g++) {
                boolean stays = g < n;
                held[g] = stays ? held[g] : 0;
                later[g] = stays ? later[g] & (1 << n) - 1 : 0;
                line[g] = g;
            }
        }

        void become(Dig other) {
            size = other.size;
            System.arraycopy(other.held, 0, held, 0, MOST_GRAVES);
            System.arraycopy(other.later, 0, later, 0, MOST_GRAVES);
            System.arraycopy(other.line, 0, line, 0, MOST_GRAVES);
        }

        int earlierThan(int grave) {
            int earlier = 0;
            for (int g = 0; g < size; g++) {
                if (isMember(later[g], grave)) {
                    earlier |= 1 << g;
                }
            }
            return earlier;
        }

        int gravesWith(int sort) {
            int graves = 0;
            for (int g = 0; g < size; g++) {
                if (isMember(held[g], sort)) {
                    graves++;
                }
            }
            return graves;
        }

        int sortsFound() {
            int found = 0;
            for (int g = 0; g < size; g++) {
                found |= held[g];
            }
            return found;
        }

        int placeInLine(int grave) {
            int found = 0;
            for (int p = 0; p < size; p++) {
                if (line[p] == grave) {
                    found = p;
                }
            }
            return found;
        }

        int lineBreaks(int sorts) {
            int runs = 0;
            int last = 0;
            for (int p = 0; p < size; p++) {
                int here = held[line[p]] & sorts;
                runs += Integer.bitCount(here & ~last);
                last = here;
            }
            return runs - Integer.bitCount(sortsFound() & sorts);
        }

        boolean lineIsAllowed() {
            int passed = 0;
            for (int p = 0; p < size; p++) {
                if ((later[line[p]] & passed) != 0) {
                    return false;
                }
                passed |= 1 << line[p];
            }
            return true;
        }

        void exchange(int k) {
            int moved = line[k];
            line[k] = line[k + 1];
            line[k + 1] = moved;
        }

        int bestExchange() {
            int fewest = lineBreaks(ALL_SORTS);
            int found = NONE;
            for (int k = 0; k < size - 1; k++) {
                exchange(k);
                int then = lineBreaks(ALL_SORTS);
                exchange(k);
                if (then < fewest) {
                    fewest = then;
                    found = k;
                }
            }
            return found;
        }
    }

    /** What it costs an order that a grave comes next, after a set of graves whose last is known. */
    private abstract static class Cost {
        abstract int ofNext(int set, int last, int next);
    }

    /** The runs that begin with the next grave. */
    private static final class RunsBegun extends Cost {
        final int[] held = new int[MOST_GRAVES];

        void lookAt(Dig dig, int sorts) {
            for (int g = 0; g < MOST_GRAVES; g++) {
                held[g] = dig.held[g] & sorts;
            }
        }

        int ofNext(int set, int last, int next) {
            int before = set == 0 ? 0 : held[last];
            return Integer.bitCount(held[next] & ~before);
        }
    }

    /** The graves that the next one overtakes: each such pair needs one swap, and no other pair does. */
    private static final class SwapsMade extends Cost {
        final int[] inFront = new int[MOST_GRAVES];

        void lookAt(Dig dig) {
            int passed = 0;
            for (int p = 0; p < dig.size; p++) {
                inFront[dig.line[p]] = passed;
                passed |= 1 << dig.line[p];
            }
        }

        int ofNext(int set, int last, int next) {
            return Integer.bitCount(inFront[next] & ~set);
        }
    }

    /**
     * All best orders, as ways through states. A state is a set of graves that lie first, with the
     * last of them: the breaks still to come depend on nothing else, so that some thousand states
     * tell of all 40320 orders.
     */
    private static final class BestOrders {
        private static final int START = 0;
        private static final int NO_WAY = 1000000;

        int size;
        int full;
        int fewestBreaks;
        int clumpCount;
        int steps;
        /** By state: the graves that come next in best orders; empty, if no best order comes by. */
        final int[] onward = new int[SETS * MOST_GRAVES];
        /** By state: how many best ways lead on from it, and how many best ways lead to it. */
        final int[] waysOn = new int[SETS * MOST_GRAVES];
        final int[] waysTo = new int[SETS * MOST_GRAVES];
        /** By state: what the question that was asked last needs of it. */
        final int[] rest = new int[SETS * MOST_GRAVES];
        /** By set of graves that lie first: those that come next in best orders. */
        final int[] following = new int[SETS];
        final int[] clumps = new int[SETS];
        final int[] goal = new int[MOST_GRAVES];
        final RunsBegun runs = new RunsBegun();
        final SwapsMade swaps = new SwapsMade();

        static int stateOf(int set, int last) {
            return set * MOST_GRAVES + last;
        }

        static int stateAfter(int set, int next) {
            return (set | 1 << next) * MOST_GRAVES + next;
        }

        static boolean isState(int set, int last) {
            return set == 0 ? last == 0 : isMember(set, last);
        }

        int total() {
            return waysOn[START];
        }

        void search(Dig dig) {
            size = dig.size;
            full = (1 << size) - 1;
            clumpCount = NONE;
            openAllowed(dig);
            runs.lookAt(dig, ALL_SORTS);
            costRest(runs);
            fewestBreaks = rest[START] - Integer.bitCount(dig.sortsFound());
            keepCheapest(runs);
            countWaysOn();
            countWaysTo();
        }

        /** A grave may come next while none that it is known to be ahead of lies already. */
        private void openAllowed(Dig dig) {
            for (int set = 0; set <= full; set++) {
                int next = 0;
                for (int g = 0; g < size; g++) {
                    if (!isMember(set, g) && (dig.later[g] & set) == 0) {
                        next |= 1 << g;
                    }
                }
                for (int last = 0; last < size; last++) {
                    onward[stateOf(set, last)] = next;
                }
            }
        }

        /** The least cost of all ways on from each state, the larger sets first. */
        private void costRest(Cost cost) {
            for (int set = full; set >= 0; set--) {
                for (int last = 0; last < size; last++) {
                    if (isState(set, last)) {
                        rest[stateOf(set, last)] = set == full ? 0 : cheapestOn(cost, set, last);
                    }
                }
            }
        }

        private int cheapestOn(Cost cost, int set, int last) {
            int next = onward[stateOf(set, last)];
            int cheapest = NO_WAY;
            for (int g = 0; g < size; g++) {
                if (isMember(next, g)) {
                    int whole = rest[stateAfter(set, g)] + cost.ofNext(set, last, g);
                    cheapest = Math.min(cheapest, whole);
                }
            }
            return cheapest;
        }

        private void keepCheapest(Cost cost) {
            for (int set = 0; set <= full; set++) {
                for (int last = 0; last < size; last++) {
                    if (isState(set, last)) {
                        onward[stateOf(set, last)] = cheapestNext(cost, set, last);
                    }
                }
            }
        }

        /** Those by which the least cost is met: after costRest with the same cost. */
        private int cheapestNext(Cost cost, int set, int last) {
            int state = stateOf(set, last);
            int chosen = 0;
            for (int g = 0; g < size && rest[state] < NO_WAY; g++) {
                if (isMember(onward[state], g)
                    && rest[stateAfter(set, g)] + cost.ofNext(set, last, g) == rest[state]) {
                    chosen |= 1 << g;
                }
            }
            return chosen;
        }

        private void countWaysOn() {
            for (int set = full; set >= 0; set--) {
                for (int last = 0; last < size; last++) {
                    if (isState(set, last)) {
                        int state = stateOf(set, last);
                        waysOn[state] = set == full ? 1 : sumOver(waysOn, onward[state], set);
                    }
                }
            }
        }

        private int sumOver(int[] numbers, int next, int set) {
            int sum = 0;
            for (int g = 0; g < size; g++) {
                if (isMember(next, g)) {
                    sum += numbers[stateAfter(set, g)];
                }
            }
            return sum;
        }

        private void countWaysTo() {
            for (int state = 0; state < (full + 1) * MOST_GRAVES; state++) {
                waysTo[state] = 0;
            }
            waysTo[START] = total() > 0 ? 1 : 0;
            for (int set = 0; set <= full; set++) {
                following[set] = 0;
                for (int last = 0; last < size; last++) {
                    if (isState(set, last)) {
                        passOn(set, last);
                    }
                }
            }
        }

        private void passOn(int set, int last) {
            int state = stateOf(set, last);
            if (waysTo[state] == 0) {
                onward[state] = 0;
            }
            following[set] |= onward[state];
            for (int g = 0; g < size; g++) {
                if (isMember(onward[state], g)) {
                    waysTo[stateAfter(set, g)] += waysTo[state];
                }
            }
        }

        int graveAt(int i, int place) {
            int set = 0;
            int last = 0;
            int left = i;
            for (int p = 0; p <= place; p++) {
                int next = onward[stateOf(set, last)];
                boolean found = false;
                for (int g = 0; g < size && !found; g++) {
                    int ways = isMember(next, g) ? waysOn[stateAfter(set, g)] : 0;
                    if (left < ways) {
                        found = true;
                        last = g;
                    } else {
                        left -= ways;
                    }
                }
                set |= 1 << last;
            }
            return last;
        }

        /** Those that lie beside a grave in so many best orders or more. */
        int neighboursOf(int grave, int wanted) {
            int neighbours = 0;
            for (int g = 0; g < size; g++) {
                if (g != grave && ordersWithNext(grave, g) + ordersWithNext(g, grave) >= wanted) {
                    neighbours |= 1 << g;
                }
            }
            return neighbours;
        }

        private int ordersWithNext(int one, int next) {
            int orders = 0;
            for (int set = 1; set <= full; set++) {
                int state = stateOf(set, one);
                if (isMember(set, one) && isMember(onward[state], next)) {
                    orders += waysTo[state] * waysOn[stateAfter(set, next)];
                }
            }
            return orders;
        }

        int leastPlaceOf(int grave) {
            for (int p = 0; p < size; p++) {
                if (ordersWithAt(grave, p) > 0) {
                    return p;
                }
            }
            return NONE;
        }

        int greatestPlaceOf(int grave) {
            for (int p = size - 1; p >= 0; p--) {
                if (ordersWithAt(grave, p) > 0) {
                    return p;
                }
            }
            return NONE;
        }

        int ordersWithAt(int grave, int place) {
            int orders = 0;
            for (int set = 1; set <= full; set++) {
                if (isMember(set, grave) && Integer.bitCount(set) == place + 1) {
                    orders += ordersBy(set, grave);
                }
            }
            return orders;
        }

        int ordersWithFirst(int one, int other) {
            int orders = 0;
            for (int set = 1; set <= full; set++) {
                if (isMember(set, one) && isMember(set, other)) {
                    orders += ordersBy(set, other);
                }
            }
            return orders;
        }

        private int ordersBy(int set, int last) {
            int state = stateOf(set, last);
            return waysTo[state] * waysOn[state];
        }

        int ordersWithTogether(int wanted) {
            for (int set = full; set >= 0; set--) {
                int barred = nextThatPart(wanted, set);
                for (int last = 0; last < size; last++) {
                    if (isState(set, last)) {
                        int state = stateOf(set, last);
                        rest[state] = set == full ? 1 : sumOver(rest, onward[state] & ~barred, set);
                    }
                }
            }
            return rest[START];
        }

        /** The graves that, coming next after a set, would part those that are to lie together. */
        private static int nextThatPart(int wanted, int set) {
            int begun = set & wanted;
            return begun == 0 || begun == wanted ? 0 : ~wanted;
        }

        void gatherClumps() {
            if (clumpCount != NONE) {
                return;
            }
            clumpCount = 0;
            for (int wanted = 1; wanted <= full && total() > 0; wanted++) {
                if (Integer.bitCount(wanted) > 1 && liesTogetherInAll(wanted)) {
                    clumps[clumpCount] = wanted;
                    clumpCount++;
                }
            }
        }

        private boolean liesTogetherInAll(int wanted) {
            for (int set = 1; set <= full; set++) {
                if ((following[set] & nextThatPart(wanted, set)) != 0) {
                    return false;
                }
            }
            return true;
        }

        int fewestBreaksOf(int sort, Dig dig) {
            if (total() == 0) {
                return NONE;
            }
            runs.lookAt(dig, 1 << sort);
            costRest(runs);
            return rest[START] - (dig.gravesWith(sort) > 0 ? 1 : 0);
        }

        /** The nearest best order to the line: the first of those to which there are fewest steps. */
        void seekGoal(Dig dig) {
            swaps.lookAt(dig);
            costRest(swaps);
            steps = rest[START];
            int set = 0;
            int last = 0;
            for (int p = 0; p < size; p++) {
                last = leastMember(cheapestNext(swaps, set, last));
                goal[p] = last;
                set |= 1 << last;
            }
        }

        private static int leastMember(int set) {
            for (int g = 0; g < MOST_GRAVES; g++) {
                if (isMember(set, g)) {
                    return g;
                }
            }
            return 0;
        }
    }
}

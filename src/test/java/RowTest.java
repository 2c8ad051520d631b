import java.util.ArrayDeque;
import java.util.HashMap;
import java.util.Map;

/** Promises 16 to 23: row, breaks, swap, better, climb, nearest, settle, count. */
public final class RowTest {
    private static final int NONE = GraveRows.NONE;
    private static final Check CHECK = new Check();

    private static void rowAndSwap() {
        GraveRows x = Calls.graves(1, 0, 1, 2);
        CHECK.due("16 first place", x.row(0), 0);
        CHECK.due("16 last place", x.row(3), 3);
        CHECK.due("18 swap(1)", x.swap(1), 0);
        CHECK.holds("16, 18 row", Calls.rowOf(x).equals("0213"));
        CHECK.due("18 swap(2)", x.swap(2), 0);
        CHECK.holds("16, 18 row", Calls.rowOf(x).equals("0231"));
        CHECK.due("18 swap(1)", x.swap(1), 1);
        CHECK.holds("16, 18 row", Calls.rowOf(x).equals("0321"));
        CHECK.due("18 swap(0)", x.swap(0), 0);
        CHECK.holds("16, 18 row", Calls.rowOf(x).equals("3021"));
    }

    private static void rowBreaks() {
        GraveRows x = Calls.graves(1, 2, 1, 2);
        CHECK.due("17 breaks", x.breaks(0), 2);
        CHECK.due("17 allowed", x.breaks(1), 1);
        CHECK.due("17 not best", x.breaks(2), 0);
        x.swap(1);
        CHECK.due("17 breaks then", x.breaks(0), 0);
        CHECK.due("17 best then", x.breaks(2), 1);
        x.ahead(2, 0, 1);
        CHECK.due("17 not allowed", x.breaks(1), 0);
        CHECK.due("17 as few breaks, but not allowed", x.breaks(2), 0);
        x.swap(0);
        CHECK.due("17 allowed and best", x.breaks(1) + x.breaks(2), 2);
        x.ahead(0, 2, 1);
        CHECK.due("17 there is no best", x.breaks(2), 0);
        CHECK.due("17 breaks of a row that is not allowed", x.breaks(0), 0);
        GraveRows one = Calls.graves(1);
        CHECK.due("17 one grave has no breaks", one.breaks(0), 0);
        CHECK.due("17 the only best one", one.breaks(2), 1);
    }

    private static void notBesideButBefore() {
        GraveRows x = new GraveRows();
        x.ahead(3, 0, 1);
        CHECK.due("17 far behind is behind", x.breaks(1), 0);
        x.ahead(3, 0, 0);
        x.ahead(0, 3, 1);
        CHECK.due("17 far ahead is ahead", x.breaks(1), 1);
    }

    private static void bestSwap() {
        GraveRows tie = Calls.graves(1, 0, 1, 0);
        CHECK.due("19 the least k", tie.better(), 0);
        CHECK.holds("19 row", Calls.rowOf(tie).equals("1023"));
        CHECK.due("19 none is good", tie.better(), NONE);
        CHECK.holds("19 row stays", Calls.rowOf(tie).equals("1023"));
        GraveRows more = Calls.graves(1, 0, 1, 6, 0, 6);
        CHECK.due("19 the fewest breaks", more.better(), 3);
        CHECK.due("19 breaks", more.breaks(0), 1);
        CHECK.due("19 then the other", more.better(), 0);
        CHECK.due("19 breaks", more.breaks(0), 0);
        GraveRows barred = Calls.graves(1, 0, 1, 0);
        barred.ahead(0, 1, 1);
        CHECK.due("19 a swap may leave what is allowed", barred.better(), 0);
        CHECK.due("19 not allowed then", barred.breaks(1), 0);
        GraveRows flat = Calls.graves(1, 0, 0, 1);
        CHECK.due("19 no fewer breaks is not good", flat.better(), NONE);
        GraveRows one = new GraveRows();
        one.many(1);
        CHECK.due("19 one grave", one.better(), NONE);
    }

    private static void climbing() {
        GraveRows x = Calls.graves(1, 0, 1, 6, 0, 6);
        CHECK.due("20 two swaps", x.climb(), 2);
        CHECK.holds("20 row", Calls.rowOf(x).equals("102435"));
        CHECK.due("20 none", x.climb(), 0);
        CHECK.due("20 nothing found", new GraveRows().climb(), 0);
        GraveRows eight = Calls.graves(1, 2, 1, 2, 1, 2, 1, 2);
        int before = eight.breaks(0);
        int made = eight.climb();
        CHECK.holds("20 each takes a break away", before - eight.breaks(0) >= made && made > 0);
        CHECK.due("20 none is good then", eight.better(), NONE);
    }

    private static void nearestOne() {
        GraveRows x = Calls.graves(1, 0, 1);
        // 021 and 102 are a step away: the first of them is the nearest.
        CHECK.due("21 steps", x.nearest(-1), 1);
        CHECK.due("21 place 0", x.nearest(0), 0);
        CHECK.due("21 place 1", x.nearest(1), 2);
        CHECK.due("21 place 2", x.nearest(2), 1);
        CHECK.holds("21 the row stays", Calls.rowOf(x).equals("012"));
        x.swap(0);
        CHECK.due("21 after a swap", x.nearest(-1), 0);
        CHECK.due("21 after a swap", x.nearest(0), 1);
        x.ahead(0, 1, 1);
        CHECK.due("21 after ahead", x.nearest(-1), 2);
        CHECK.due("21 after ahead", x.nearest(0), 0);
        x.ahead(1, 0, 1);
        CHECK.due("21 there is none", x.nearest(-1), NONE);
        CHECK.due("21 there is none", x.nearest(2), NONE);
    }

    private static void nearestAfterBetterAndClimb() {
        GraveRows x = Calls.graves(1, 0, 1, 0);
        CHECK.due("21 before", x.nearest(-1), 1);
        x.better();
        CHECK.due("21 after better", x.nearest(-1), 0);
        CHECK.due("21 after better", x.nearest(0), 1);
        GraveRows y = Calls.graves(1, 0, 1, 6, 0, 6);
        CHECK.due("21 before", y.nearest(-1), 2);
        y.climb();
        CHECK.due("21 after climb", y.nearest(-1), 0);
        CHECK.due("21 after climb", y.nearest(0), 1);
    }

    /** The only best order is the one that is told; by no way shorter than a search finds. */
    private static void stepsAreFewest(String goal, Map<String, Integer> far) {
        GraveRows x = new GraveRows();
        x.many(goal.length());
        for (int p = 0; p + 1 < goal.length(); p++) {
            x.ahead(goal.charAt(p) - '0', goal.charAt(p + 1) - '0', 1);
        }
        CHECK.due("21 to " + goal, x.nearest(-1), far.get(goal));
        CHECK.due("22 to " + goal, x.settle(), far.get(goal));
        CHECK.holds("22 at " + goal, Calls.rowOf(x).equals(goal));
        CHECK.due("22 stays", x.nearest(-1), 0);
    }

    private static Map<String, Integer> stepsFrom(String start) {
        Map<String, Integer> far = new HashMap<>();
        ArrayDeque<String> open = new ArrayDeque<>();
        far.put(start, 0);
        open.add(start);
        while (!open.isEmpty()) {
            String at = open.remove();
            for (int k = 0; k + 1 < at.length(); k++) {
                String then = at.substring(0, k) + at.charAt(k + 1) + at.charAt(k) + at.substring(k + 2);
                if (!far.containsKey(then)) {
                    far.put(then, far.get(at) + 1);
                    open.add(then);
                }
            }
        }
        return far;
    }

    private static void allSteps() {
        for (int n = 1; n <= 5; n++) {
            Map<String, Integer> far = stepsFrom("01234567".substring(0, n));
            for (String goal : far.keySet()) {
                stepsAreFewest(goal, far);
            }
        }
        stepsAreFewest("76543210", Map.of("76543210", 28));
    }

    private static void settling() {
        GraveRows x = Calls.graves(1, 0, 1);
        CHECK.due("22 steps", x.settle(), 1);
        CHECK.holds("22 row", Calls.rowOf(x).equals("021"));
        CHECK.due("22 there already", x.settle(), 0);
        CHECK.due("22 best", x.breaks(2), 1);
        x.ahead(0, 1, 1);
        x.ahead(1, 0, 1);
        CHECK.due("22 there is none", x.settle(), GraveRows.STATE);
        CHECK.holds("22 row stays", Calls.rowOf(x).equals("021"));
    }

    private static void counts() {
        GraveRows x = Calls.graves(1, 3, 1023);
        x.ahead(0, 1, 1);
        x.ahead(0, 2, 1);
        x.ahead(2, 0, 1);
        CHECK.due("23 many", x.count(0), 3);
        CHECK.due("23 finds", x.count(1), 13);
        CHECK.due("23 pairs", x.count(2), 3);
        CHECK.due("23 images", x.count(3), 0);
        x.image(1);
        CHECK.due("23 the second", x.count(3), 2);
        x.image(0);
        CHECK.due("23 both", x.count(3), 3);
        x.image(0);
        CHECK.due("23 both still", x.count(3), 3);
        GraveRows first = new GraveRows();
        first.image(0);
        CHECK.due("23 the first", first.count(3), 1);
    }

    public static void main(String[] args) {
        rowAndSwap();
        rowBreaks();
        notBesideButBefore();
        bestSwap();
        climbing();
        nearestOne();
        nearestAfterBetterAndClimb();
        allSteps();
        settling();
        counts();
        CHECK.end("RowTest");
    }
}

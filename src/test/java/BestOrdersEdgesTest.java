/** The edges of promises 8 to 15, sentence by sentence: least, best, order .. clump. */
public final class BestOrdersEdgesTest {
    private static final int UNKNOWN = GraveRows.UNKNOWN, OUTSIDE = GraveRows.OUTSIDE;
    private static final int NONE = GraveRows.NONE;
    private static final int GREATEST_INT = Edges.GREATEST_INT, LEAST_INT = Edges.LEAST_INT;
    private static final Ready[] WITHOUT_BEST = {Ready.NONE_ALLOWED, Ready.ALL};
    private static final Edges EDGES = new Edges();

    // ---- 8 least

    private static void leastOfBest() {
        EDGES.due("nothing found", Ready.EIGHT.make().least(), 0);
        EDGES.due("one grave", Ready.ONE.make().least(), 0);
        EDGES.due("two graves", Ready.TWO.make().least(), 0);
        EDGES.due("all found", Calls.graves(1023, 1023, 1023, 1023, 1023, 1023, 1023, 1023).least(), 0);
        EDGES.due("the most that there can be", Ready.ONLY_ONE_BEST.make().least(), 30);
    }

    private static void noLeast() {
        for (Ready ready : WITHOUT_BEST) {
            EDGES.due(ready + " least()", ready.make().least(), NONE);
        }
        GraveRows x = Ready.TWO.make();
        x.ahead(0, 1, 1);
        EDGES.due("one way", x.least(), 0);
        x.ahead(1, 0, 1);
        EDGES.due("both ways", x.least(), NONE);
        x.ahead(0, 1, 0);
        EDGES.due("one way again", x.least(), 0);
    }

    // ---- 9 best

    private static void howManyAreBest() {
        int orders = 1;
        for (int n = 1; n <= 8; n++) {
            orders *= n;
            GraveRows x = new GraveRows();
            x.many(n);
            EDGES.due("all orders of " + n, x.best(), orders);
        }
        EDGES.due("one", Ready.ONLY_ONE_BEST.make().best(), 1);
        EDGES.due("four", Ready.SOME.make().best(), 4);
        for (Ready ready : WITHOUT_BEST) {
            EDGES.due(ready + " best()", ready.make().best(), 0);
        }
    }

    /** The longest ring there can be, and the shortest: with one pair less there are best orders. */
    private static void ringsAllowNone() {
        for (int length = 2; length <= 8; length++) {
            GraveRows x = Ready.EIGHT.make();
            for (int g = 0; g < length; g++) {
                x.ahead(g, (g + 1) % length, 1);
            }
            EDGES.due("ring of " + length, x.best(), 0);
            EDGES.due("ring of " + length + ", least()", x.least(), NONE);
            x.ahead(length - 1, 0, 0);
            EDGES.due("chain of " + length, x.best(), 40320 / product(length));
        }
    }

    private static int product(int n) {
        return n < 2 ? 1 : n * product(n - 1);
    }

    // ---- 10 order

    private static String after(String order) {
        char[] signs = order.toCharArray();
        int from = signs.length - 2;
        while (from >= 0 && signs[from] > signs[from + 1]) {
            from--;
        }
        if (from < 0) {
            return "";
        }
        int with = signs.length - 1;
        while (signs[with] < signs[from]) {
            with--;
        }
        char moved = signs[from];
        signs[from] = signs[with];
        signs[with] = moved;
        String rest = new String(signs, from + 1, signs.length - from - 1);
        return new String(signs, 0, from + 1) + new StringBuilder(rest).reverse();
    }

    /** An object is asked for at most 24 orders, so that it stays below its 512 calls. */
    private static void everyOrder() {
        for (int n = 1; n <= 8; n++) {
            String due = "01234567".substring(0, n);
            GraveRows x = null;
            for (int i = 0; i < product(n); i++) {
                if (i % 24 == 0) {
                    x = new GraveRows();
                    x.many(n);
                }
                EDGES.due("order " + i + " of " + n, Calls.bestOrder(x, i), due);
                due = after(due);
            }
            EDGES.due("no order comes after the last", due, "");
            EDGES.due("one more", x.order(product(n), 0), NONE);
        }
    }

    private static void fourOrders() {
        String[] due = {"1302", "1320", "3102", "3120"};
        GraveRows x = Ready.SOME.make();
        for (int i = 0; i < due.length; i++) {
            EDGES.due("order " + i, Calls.bestOrder(x, i), due[i]);
        }
    }

    private static void notSoManyOrders() {
        for (Ready ready : Ready.values()) {
            GraveRows x = ready.make();
            int best = x.best();
            int last = ready.graves() - 1;
            EDGES.due(ready + " one more", x.order(best, 0), NONE);
            EDGES.due(ready + " one more, last place", x.order(best, last), NONE);
            EDGES.due(ready + " two more", x.order(best + 1, 0), NONE);
            EDGES.due(ready + " 40320", x.order(40320, last), NONE);
            EDGES.due(ready + " the greatest int", x.order(GREATEST_INT, last), NONE);
        }
        EDGES.due("the last of eight", Ready.EIGHT.make().order(40319, 7), 0);
    }

    private static void orderOutside() {
        for (Ready ready : Ready.values()) {
            int last = ready.graves() - 1;
            for (int i : new int[] {-1, -2, LEAST_INT, LEAST_INT + 1}) {
                EDGES.refused(ready, "order(" + i + ", 0)", OUTSIDE, x -> x.order(i, 0));
                EDGES.refused(ready, "order(" + i + ", last)", OUTSIDE, x -> x.order(i, last));
                EDGES.refused(ready, "order(" + i + ", many)", OUTSIDE, x -> x.order(i, last + 1));
            }
            for (int place : Edges.outside(0, last)) {
                EDGES.refused(ready, "order(0, " + place + ")", OUTSIDE, x -> x.order(0, place));
                EDGES.refused(ready, "before NONE, order(40320, " + place + ")", OUTSIDE,
                    x -> x.order(40320, place));
                EDGES.refused(ready, "before NONE, order(greatest, " + place + ")", OUTSIDE,
                    x -> x.order(GREATEST_INT, place));
            }
        }
    }

    // ---- 11 beside

    private static int besideInARow(int grave) {
        return 2 << grave & 255 | 1 << grave >> 1;
    }

    private static void besideInAll() {
        for (int g = 0; g < 8; g++) {
            EDGES.due("free", Ready.EIGHT.make().beside(g, 0), 0);
            EDGES.due("one order", Ready.ONLY_ONE_BEST.make().beside(g, 0), besideInARow(g));
        }
        EDGES.due("alone", Ready.ONE.make().beside(0, 0), 0);
        EDGES.due("two, 0", Ready.TWO.make().beside(0, 0), 2);
        EDGES.due("two, 1", Ready.TWO.make().beside(1, 0), 1);
        EDGES.due("four", Ready.SOME.make().beside(3, 0), 2);
    }

    private static void besideInAny() {
        for (int g = 0; g < 8; g++) {
            EDGES.due("free", Ready.EIGHT.make().beside(g, 1), 255 - (1 << g));
            EDGES.due("one order", Ready.ONLY_ONE_BEST.make().beside(g, 1), besideInARow(g));
        }
        EDGES.due("alone", Ready.ONE.make().beside(0, 1), 0);
        EDGES.due("two, 0", Ready.TWO.make().beside(0, 1), 2);
        EDGES.due("two, 1", Ready.TWO.make().beside(1, 1), 1);
        EDGES.due("four", Ready.SOME.make().beside(3, 1), 1 + 2 + 4);
    }

    private static void besideWithoutBest() {
        for (Ready ready : WITHOUT_BEST) {
            for (int g = 0; g < ready.graves(); g++) {
                EDGES.due(ready + " in all", ready.make().beside(g, 0), 0);
                EDGES.due(ready + " in any", ready.make().beside(g, 1), 0);
            }
        }
    }

    private static void besideUnknown() {
        for (Ready ready : Ready.values()) {
            for (int g : Edges.outside(0, ready.graves() - 1)) {
                EDGES.refused(ready, "beside(" + g + ", 0)", UNKNOWN, x -> x.beside(g, 0));
                EDGES.refused(ready, "beside(" + g + ", 1)", UNKNOWN, x -> x.beside(g, 1));
                EDGES.refused(ready, "first, beside(" + g + ", 2)", UNKNOWN, x -> x.beside(g, 2));
                EDGES.refused(ready, "first, beside(" + g + ", -1)", UNKNOWN, x -> x.beside(g, -1));
            }
        }
    }

    private static void besideOutside() {
        for (Ready ready : Ready.values()) {
            int last = ready.graves() - 1;
            for (int what : Edges.outside(0, 1)) {
                EDGES.refused(ready, "beside(0, " + what + ")", OUTSIDE, x -> x.beside(0, what));
                EDGES.refused(ready, "beside(last, " + what + ")", OUTSIDE, x -> x.beside(last, what));
            }
        }
    }

    // ---- 12 place

    private static void leastAndGreatestPlace() {
        GraveRows free = Ready.EIGHT.make();
        GraveRows only = Ready.ONLY_ONE_BEST.make();
        for (int g = 0; g < 8; g++) {
            EDGES.due("free, least", free.place(g, 0), 0);
            EDGES.due("free, greatest", free.place(g, 1), 7);
            EDGES.due("one order, least", only.place(g, 0), g);
            EDGES.due("one order, greatest", only.place(g, 1), g);
        }
        GraveRows one = Ready.ONE.make();
        EDGES.due("alone, least", one.place(0, 0), 0);
        EDGES.due("alone, greatest", one.place(0, 1), 0);
    }

    private static void inHowManyAtAPlace() {
        GraveRows free = Ready.EIGHT.make();
        GraveRows only = Ready.ONLY_ONE_BEST.make();
        for (int p = 0; p < 8; p++) {
            for (int g = 0; g < 8; g++) {
                EDGES.due("free, at " + p, free.place(g, 10 + p), 5040);
                EDGES.due("one order, at " + p, only.place(g, 10 + p), g == p ? 1 : 0);
            }
        }
        EDGES.due("alone, at 0", Ready.ONE.make().place(0, 10), 1);
    }

    private static void placeUnknown() {
        for (Ready ready : Ready.values()) {
            for (int g : Edges.outside(0, ready.graves() - 1)) {
                for (int what : new int[] {0, 1, 10, 2, 9, 18, -1}) {
                    EDGES.refused(ready, "place(" + g + ", " + what + ")", UNKNOWN, x -> x.place(g, what));
                }
            }
        }
    }

    private static void placeOutside() {
        for (Ready ready : Ready.values()) {
            int n = ready.graves();
            for (int what = 2; what <= 9; what++) {
                int between = what;
                EDGES.refused(ready, "place(0, " + what + ")", OUTSIDE, x -> x.place(0, between));
            }
            for (int what : Edges.outside(0, 9 + n)) {
                EDGES.refused(ready, "place(0, " + what + ")", OUTSIDE, x -> x.place(0, what));
                EDGES.refused(ready, "place(last, " + what + ")", OUTSIDE, x -> x.place(n - 1, what));
            }
            for (int what = 10 + n; what <= 18; what++) {
                int beyond = what;
                EDGES.refused(ready, "no such place, " + what, OUTSIDE, x -> x.place(0, beyond));
            }
        }
    }

    private static void placeWithoutBest() {
        for (Ready ready : WITHOUT_BEST) {
            GraveRows x = ready.make();
            for (int g = 0; g < ready.graves(); g++) {
                EDGES.due(ready + " least", x.place(g, 0), NONE);
                EDGES.due(ready + " greatest", x.place(g, 1), NONE);
                EDGES.due(ready + " at the first", x.place(g, 10), 0);
                EDGES.due(ready + " at the last", x.place(g, 9 + ready.graves()), 0);
            }
        }
    }

    // ---- 13 before

    private static void inHowManyBefore() {
        GraveRows free = Ready.EIGHT.make();
        GraveRows only = Ready.ONLY_ONE_BEST.make();
        for (int one = 0; one < 8; one++) {
            for (int other = 0; other < 8; other++) {
                if (one != other) {
                    EDGES.due("free", free.before(one, other), 20160);
                    EDGES.due("one order", only.before(one, other), one < other ? 1 : 0);
                }
            }
        }
        EDGES.due("two", Ready.TWO.make().before(1, 0), 1);
        for (Ready ready : WITHOUT_BEST) {
            EDGES.due(ready + " before(0, 3)", ready.make().before(0, 3), 0);
            EDGES.due(ready + " before(3, 0)", ready.make().before(3, 0), 0);
        }
    }

    private static void beforeUnknown() {
        for (Ready ready : Ready.values()) {
            for (int g : Edges.outside(0, ready.graves() - 1)) {
                EDGES.refused(ready, "before(" + g + ", 0)", UNKNOWN, x -> x.before(g, 0));
                EDGES.refused(ready, "before(0, " + g + ")", UNKNOWN, x -> x.before(0, g));
                EDGES.refused(ready, "first, before(" + g + ", the same)", UNKNOWN, x -> x.before(g, g));
            }
            EDGES.refused(ready, "before(-1, 8)", UNKNOWN, x -> x.before(-1, 8));
        }
    }

    private static void beforeOutside() {
        for (Ready ready : Ready.values()) {
            for (int g = 0; g < ready.graves(); g++) {
                int same = g;
                EDGES.refused(ready, "before(" + g + ", " + g + ")", OUTSIDE, x -> x.before(same, same));
            }
        }
    }

    // ---- 14 together

    private static void inHowManyTogether() {
        for (int n = 1; n <= 8; n++) {
            GraveRows x = new GraveRows();
            x.many(n);
            EDGES.due("the least set of " + n, x.together(1), product(n));
            EDGES.due("the last grave of " + n, x.together(1 << n - 1), product(n));
            EDGES.due("the greatest set of " + n, x.together((1 << n) - 1), product(n));
        }
        GraveRows free = Ready.EIGHT.make();
        for (int set = 1; set <= 255; set++) {
            int members = Integer.bitCount(set);
            EDGES.due("free, " + set, free.together(set), product(members) * product(9 - members));
        }
    }

    private static void togetherInTheOnlyOne() {
        GraveRows only = Ready.ONLY_ONE_BEST.make();
        for (int set = 1; set <= 255; set++) {
            int first = Integer.numberOfTrailingZeros(set);
            boolean stretch = (set >> first & (set >> first) + 1) == 0;
            EDGES.due("one order, " + set, only.together(set), stretch ? 1 : 0);
        }
    }

    private static void togetherWithoutBest() {
        for (Ready ready : WITHOUT_BEST) {
            EDGES.due(ready + " together(1)", ready.make().together(1), 0);
            EDGES.due(ready + " all", ready.make().together((1 << ready.graves()) - 1), 0);
        }
    }

    private static void togetherOutside() {
        for (Ready ready : Ready.values()) {
            int greatest = (1 << ready.graves()) - 1;
            for (int set : Edges.outside(1, greatest)) {
                EDGES.refused(ready, "together(" + set + ")", OUTSIDE, x -> x.together(set));
            }
            EDGES.refused(ready, "one too many", OUTSIDE, x -> x.together(greatest * 2 + 1));
            EDGES.refused(ready, "bit 31 and all", OUTSIDE, x -> x.together(LEAST_INT + greatest));
        }
    }

    // ---- 15 clump

    private static void howManyClumps() {
        EDGES.due("one grave", Ready.ONE.make().clump(-1), 0);
        EDGES.due("two graves", Ready.TWO.make().clump(-1), 1);
        EDGES.due("four graves", Ready.NEW.make().clump(-1), 1);
        EDGES.due("eight graves", Ready.EIGHT.make().clump(-1), 1);
        EDGES.due("one order: each stretch", Ready.ONLY_ONE_BEST.make().clump(-1), 28);
        for (Ready ready : WITHOUT_BEST) {
            EDGES.due(ready + " clump(-1)", ready.make().clump(-1), 0);
        }
    }

    private static void twoOrMore() {
        EDGES.due("one grave is no clump", Ready.ONE.make().clump(0), NONE);
        for (Ready ready : Ready.values()) {
            GraveRows x = ready.make();
            for (int i = 0; i < x.clump(-1); i++) {
                EDGES.due(ready + " clump(" + i + ")", Integer.bitCount(x.clump(i)) >= 2 ? 1 : 0, 1);
            }
        }
    }

    private static void clumpsRise() {
        GraveRows only = Ready.ONLY_ONE_BEST.make();
        int i = 0;
        for (int last = 1; last < 8; last++) {
            for (int first = last - 1; first >= 0; first--) {
                EDGES.due("clump(" + i + ")", only.clump(i), (2 << last) - (1 << first));
                i++;
            }
        }
        GraveRows some = Ready.SOME.make();
        EDGES.due("0 and 2", some.clump(0), 5);
        EDGES.due("1 and 3", some.clump(1), 10);
        EDGES.due("all", some.clump(2), 15);
        EDGES.due("the only one of two", Ready.TWO.make().clump(0), 3);
        EDGES.due("the only one of eight", Ready.EIGHT.make().clump(0), 255);
    }

    private static void noSuchClump() {
        for (Ready ready : Ready.values()) {
            GraveRows x = ready.make();
            int clumps = x.clump(-1);
            EDGES.due(ready + " one more", x.clump(clumps), NONE);
            EDGES.due(ready + " 255", x.clump(255), NONE);
            EDGES.due(ready + " 256", x.clump(256), NONE);
            EDGES.due(ready + " the greatest int", x.clump(GREATEST_INT), NONE);
        }
        for (Ready ready : WITHOUT_BEST) {
            EDGES.due(ready + " clump(0)", ready.make().clump(0), NONE);
        }
        EDGES.due("one grave, clump(0)", Ready.ONE.make().clump(0), NONE);
    }

    private static void clumpOutside() {
        for (Ready ready : Ready.values()) {
            for (int i : new int[] {-2, -3, LEAST_INT, LEAST_INT + 1}) {
                EDGES.refused(ready, "clump(" + i + ")", OUTSIDE, x -> x.clump(i));
            }
        }
    }

    private static void firstFour() {
        EDGES.sentence("8", "How many BREAKS BEST ORDERS have", BestOrdersEdgesTest::leastOfBest);
        EDGES.sentence("8", "NONE: there are none.", BestOrdersEdgesTest::noLeast);
        EDGES.sentence("9", "How many ORDERS are BEST.", BestOrdersEdgesTest::howManyAreBest);
        EDGES.sentence("9", "How many ORDERS are BEST.", BestOrdersEdgesTest::ringsAllowNone);
        EDGES.sentence("10", "The GRAVE at a place of the i-th BEST ORDER, from 0 on",
            BestOrdersEdgesTest::everyOrder);
        EDGES.sentence("10", "The GRAVE at a place of the i-th BEST ORDER, from 0 on",
            BestOrdersEdgesTest::fourOrders);
        EDGES.sentence("10", "NONE: there are not so many.", BestOrdersEdgesTest::notSoManyOrders);
        EDGES.sentence("10", "OUTSIDE: i is below 0, the place.", BestOrdersEdgesTest::orderOutside);
        EDGES.sentence("11", "The set of GRAVES that lie beside a GRAVE in all BEST ORDERS",
            BestOrdersEdgesTest::besideInAll);
        EDGES.sentence("11", "in any (1)", BestOrdersEdgesTest::besideInAny);
        EDGES.sentence("11", "empty, if there are none", BestOrdersEdgesTest::besideWithoutBest);
        EDGES.sentence("11", "UNKNOWN;", BestOrdersEdgesTest::besideUnknown);
        EDGES.sentence("11", "OUTSIDE.", BestOrdersEdgesTest::besideOutside);
    }

    private static void lastFour() {
        EDGES.sentence("12", "The least place (what = 0), the greatest one (1)",
            BestOrdersEdgesTest::leastAndGreatestPlace);
        EDGES.sentence("12", "in how many it lies at place p (10 and p)",
            BestOrdersEdgesTest::inHowManyAtAPlace);
        EDGES.sentence("12", "UNKNOWN;", BestOrdersEdgesTest::placeUnknown);
        EDGES.sentence("12", "OUTSIDE (there is no such place, too)", BestOrdersEdgesTest::placeOutside);
        EDGES.sentence("12", "NONE: there are none (0, 1).", BestOrdersEdgesTest::placeWithoutBest);
        EDGES.sentence("13", "In how many BEST ORDERS one GRAVE lies before another one.",
            BestOrdersEdgesTest::inHowManyBefore);
        EDGES.sentence("13", "UNKNOWN: both", BestOrdersEdgesTest::beforeUnknown);
        EDGES.sentence("13", "OUTSIDE: they are one.", BestOrdersEdgesTest::beforeOutside);
        EDGES.sentence("14", "In how many BEST ORDERS all GRAVES of a set lie at places one after the other.",
            BestOrdersEdgesTest::inHowManyTogether);
        EDGES.sentence("14", "In how many BEST ORDERS all GRAVES of a set lie at places one after the other.",
            BestOrdersEdgesTest::togetherInTheOnlyOne);
        EDGES.sentence("14", "In how many BEST ORDERS", BestOrdersEdgesTest::togetherWithoutBest);
        EDGES.sentence("14", "OUTSIDE: it is no set of GRAVES, or is empty.",
            BestOrdersEdgesTest::togetherOutside);
        EDGES.sentence("15", "Of all sets of two GRAVES or more that lie together in all BEST ORDERS",
            BestOrdersEdgesTest::twoOrMore);
        EDGES.sentence("15", "how many (i = -1; 0, if there are no BEST ORDERS)",
            BestOrdersEdgesTest::howManyClumps);
        EDGES.sentence("15", "the i-th, rising as numbers, from 0 on", BestOrdersEdgesTest::clumpsRise);
        EDGES.sentence("15", "NONE: there is none such.", BestOrdersEdgesTest::noSuchClump);
        EDGES.sentence("15", "OUTSIDE: i is below -1.", BestOrdersEdgesTest::clumpOutside);
    }

    public static void main(String[] args) {
        firstFour();
        lastFour();
        EDGES.end("BestOrdersEdgesTest");
    }
}

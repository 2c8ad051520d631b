/** The edges of promises 16 to 23, sentence by sentence: row, breaks, swap .. count. */
public final class RowEdgesTest {
    private static final int OUTSIDE = GraveRows.OUTSIDE, STATE = GraveRows.STATE;
    private static final int NONE = GraveRows.NONE;
    private static final Ready[] WITHOUT_BEST = {Ready.NONE_ALLOWED, Ready.ALL};
    private static final Edges EDGES = new Edges();

    /** So many graves with nothing; 7, 6, 5 .. 0 alone is allowed. */
    private static GraveRows onlyTurnedRound(int n) {
        GraveRows x = new GraveRows();
        x.many(n);
        for (int g = 1; g < n; g++) {
            x.ahead(g, g - 1, 1);
        }
        return x;
    }

    // ---- 16 row

    private static void rowAtItsEnds() {
        for (int n = 1; n <= 8; n++) {
            GraveRows x = new GraveRows();
            x.many(n);
            EDGES.due("first of " + n, x.row(0), 0);
            EDGES.due("last of " + n, x.row(n - 1), n - 1);
            Calls.turnRound(x);
            EDGES.due("turned, first of " + n, x.row(0), n - 1);
            EDGES.due("turned, last of " + n, x.row(n - 1), 0);
        }
    }

    private static void rowOutside() {
        for (Ready ready : Ready.values()) {
            for (int place : Edges.outside(0, ready.graves() - 1)) {
                EDGES.refused(ready, "row(" + place + ")", OUTSIDE, x -> x.row(place));
            }
        }
    }

    // ---- 17 breaks

    private static void breaksOfTheRow() {
        EDGES.due("nothing found", Ready.EIGHT.make().breaks(0), 0);
        EDGES.due("all found", Ready.ALL.make().breaks(0), 0);
        EDGES.due("one grave", Ready.ONE.make().breaks(0), 0);
        EDGES.due("two graves", Ready.TWO.make().breaks(0), 0);
        EDGES.due("the most that there can be", Ready.ONLY_ONE_BEST.make().breaks(0), 30);
    }

    private static void rowIsAllowed() {
        EDGES.due("nothing known", Ready.EIGHT.make().breaks(1), 1);
        EDGES.due("all known", Ready.ALL.make().breaks(1), 0);
        EDGES.due("one grave", Ready.ONE.make().breaks(1), 1);
        GraveRows x = Ready.ONLY_ONE_BEST.make();
        EDGES.due("the last two turned", x.breaks(1), 0);
        x.swap(6);
        EDGES.due("and back", x.breaks(1), 1);
        x.swap(0);
        EDGES.due("the first two turned", x.breaks(1), 0);
        GraveRows ends = Ready.EIGHT.make();
        ends.ahead(7, 0, 1);
        EDGES.due("the last is ahead of the first", ends.breaks(1), 0);
        Calls.turnRound(ends);
        EDGES.due("it lies first", ends.breaks(1), 1);
    }

    private static void rowIsBest() {
        EDGES.due("nothing found", Ready.EIGHT.make().breaks(2), 1);
        EDGES.due("one grave", Ready.ONE.make().breaks(2), 1);
        for (Ready ready : WITHOUT_BEST) {
            EDGES.due(ready + " breaks(2)", ready.make().breaks(2), 0);
        }
        GraveRows only = Ready.ONLY_ONE_BEST.make();
        EDGES.due("as few breaks, but not allowed", only.breaks(2), 0);
        only.swap(6);
        EDGES.due("the only one", only.breaks(2), 1);
        GraveRows fewer = Calls.graves(1, 0, 1);
        fewer.ahead(0, 1, 1);
        fewer.ahead(1, 2, 1);
        EDGES.due("a break that must be", fewer.breaks(2), 1);
        fewer.swap(1);
        EDGES.due("fewer than the best, but not allowed", fewer.breaks(2), 0);
        EDGES.due("one break more than the best", Calls.graves(1, 0, 1).breaks(2), 0);
    }

    private static void breaksOutside() {
        for (Ready ready : Ready.values()) {
            for (int what : Edges.outside(0, 2)) {
                EDGES.refused(ready, "breaks(" + what + ")", OUTSIDE, x -> x.breaks(what));
            }
        }
    }

    // ---- 18 swap

    private static void swapAtTheEnds() {
        for (int n = 2; n <= 8; n++) {
            GraveRows x = new GraveRows();
            x.many(n);
            x.swap(0);
            EDGES.due("the first two of " + n, Calls.rowOf(x), "10234567".substring(0, n));
            x.swap(0);
            EDGES.due("and back", Calls.rowOf(x), "01234567".substring(0, n));
            x.swap(n - 2);
            EDGES.due("the last of " + n, x.row(n - 2), n - 1);
            EDGES.due("the last of " + n, x.row(n - 1), n - 2);
        }
    }

    private static void breaksThen() {
        EDGES.due("nothing found", Ready.EIGHT.make().swap(6), 0);
        EDGES.due("all found", Ready.ALL.make().swap(0), 0);
        GraveRows x = Ready.ONLY_ONE_BEST.make();
        EDGES.due("the most that there can be", x.swap(6), 30);
        EDGES.due("one run less of each sort", x.swap(1), 20);
        EDGES.due("and back", x.swap(1), 30);
    }

    private static void swapOutside() {
        for (Ready ready : Ready.values()) {
            for (int k : Edges.outside(0, ready.graves() - 2)) {
                EDGES.refused(ready, "swap(" + k + ")", OUTSIDE, x -> x.swap(k));
            }
        }
    }

    // ---- 19 better

    private static void whichIsBest() {
        GraveRows first = Calls.graves(1, 0, 1, 0, 0, 0, 0, 0);
        EDGES.due("of two the least k", first.better(), 0);
        EDGES.due("row", Calls.rowOf(first), "10234567");
        // Swap 5 would part sort 1 where it joins sort 0.
        GraveRows last = Calls.graves(0, 0, 0, 0, 2, 3, 0, 1);
        EDGES.due("the greatest k", last.better(), 6);
        EDGES.due("row", Calls.rowOf(last), "01234576");
        GraveRows two = Calls.graves(1, 0, 1, 0, 0, 6, 0, 6);
        EDGES.due("the fewest breaks, not the least k", two.better(), 5);
        EDGES.due("breaks", two.breaks(0), 1);
    }

    private static void noneIsGood() {
        GraveRows[] rows = {
            Ready.ONE.make(), Ready.TWO.make(), Ready.EIGHT.make(), Ready.ALL.make(),
            Calls.graves(1, 0, 0, 1), Calls.graves(1, 2), Calls.graves(1, 0, 0, 0, 0, 0, 0, 1)};
        for (GraveRows x : rows) {
            String before = Calls.seen(x);
            EDGES.due("better()", x.better(), NONE);
            EDGES.due("nothing changed", Calls.seen(x), before);
        }
    }

    private static void betterLooksAtBreaksAlone() {
        GraveRows x = Calls.graves(1, 0, 1, 0);
        x.ahead(0, 1, 1);
        x.ahead(1, 0, 1);
        EDGES.due("where no order is allowed", x.better(), 0);
        GraveRows y = Calls.graves(1, 0, 1);
        y.ahead(0, 1, 1);
        y.ahead(1, 2, 1);
        EDGES.due("away from what is best", y.better(), 0);
        EDGES.due("best no more", y.breaks(2), 0);
    }

    // ---- 20 climb

    private static void climbsNone() {
        EDGES.due("one grave", Ready.ONE.make().climb(), 0);
        EDGES.due("two graves", Ready.TWO.make().climb(), 0);
        EDGES.due("nothing found", Ready.EIGHT.make().climb(), 0);
        EDGES.due("all found", Ready.ALL.make().climb(), 0);
        GraveRows stuck = Calls.graves(1, 0, 0, 1);
        EDGES.due("none is good, though the row is not best", stuck.climb(), 0);
        EDGES.due("not best", stuck.breaks(2), 0);
        EDGES.due("the row stays", Calls.rowOf(stuck), "0123");
    }

    private static void climbsAsBetterDoes() {
        int[][] finds = {
            {1, 0, 1, 6, 0, 6}, {1, 2, 1, 2, 1, 2, 1, 2}, {1, 2, 4, 1, 2, 4, 1, 2},
            {1023, 0, 1023, 0, 1023, 0, 1023, 0}, {1, 3, 7, 1, 6, 2, 5, 4}, {33, 12, 40, 8, 62, 59, 33, 11},
            {115, 655, 282, 134, 287, 112, 42, 479}};
        int most = 0;
        for (int[] sets : finds) {
            GraveRows x = Calls.graves(sets);
            GraveRows y = Calls.graves(sets);
            int made = 0;
            while (made < 100 && y.better() != NONE) {
                made++;
            }
            EDGES.due("so many swaps", x.climb(), made);
            EDGES.due("row", Calls.rowOf(x), Calls.rowOf(y));
            EDGES.due("none is good then", x.better(), NONE);
            EDGES.due("none more", x.climb(), 0);
            most = Math.max(most, made);
        }
        EDGES.due("one after the other", most, 8);
    }

    // ---- 21 nearest

    private static void stepsToTheNearest() {
        for (int n = 1; n <= 8; n++) {
            GraveRows x = onlyTurnedRound(n);
            EDGES.due("all the way, of " + n, x.nearest(-1), n * (n - 1) / 2);
            Calls.turnRound(x);
            EDGES.due("there, of " + n, x.nearest(-1), 0);
        }
        EDGES.due("nothing found", Ready.EIGHT.make().nearest(-1), 0);
        EDGES.due("one grave", Ready.ONE.make().nearest(-1), 0);
        EDGES.due("one step", Ready.ONLY_ONE_BEST.make().nearest(-1), 1);
    }

    private static void graveOfTheNearest() {
        for (int n = 1; n <= 8; n++) {
            GraveRows x = onlyTurnedRound(n);
            for (int p = 0; p < n; p++) {
                EDGES.due("place " + p + " of " + n, x.nearest(p), n - 1 - p);
            }
            EDGES.due("the row stays", Calls.rowOf(x), "01234567".substring(0, n));
        }
        GraveRows turned = Ready.EIGHT.make();
        Calls.turnRound(turned);
        EDGES.due("a best row is its own nearest", turned.nearest(0), 7);
        EDGES.due("a best row is its own nearest", turned.nearest(7), 0);
    }

    private static void noNearest() {
        for (Ready ready : WITHOUT_BEST) {
            for (int place = -1; place < ready.graves(); place++) {
                GraveRows x = ready.make();
                String before = Calls.seen(x);
                EDGES.due(ready + " nearest(" + place + ")", x.nearest(place), NONE);
                EDGES.due(ready + " nothing changed", Calls.seen(x), before);
            }
        }
    }

    private static void nearestOutside() {
        for (Ready ready : Ready.values()) {
            for (int place : Edges.outside(-1, ready.graves() - 1)) {
                EDGES.refused(ready, "nearest(" + place + ")", OUTSIDE, x -> x.nearest(place));
            }
        }
    }

    // ---- 22 settle

    private static void howManyStepsThatWere() {
        for (int n = 1; n <= 8; n++) {
            GraveRows x = onlyTurnedRound(n);
            EDGES.due("all the way, of " + n, x.settle(), n * (n - 1) / 2);
            EDGES.due("row", Calls.rowOf(x), "76543210".substring(8 - n));
            EDGES.due("there", x.settle(), 0);
            EDGES.due("row", Calls.rowOf(x), "76543210".substring(8 - n));
        }
        GraveRows free = Ready.EIGHT.make();
        Calls.turnRound(free);
        EDGES.due("each row is best", free.settle(), 0);
        EDGES.due("it stays", Calls.rowOf(free), "76543210");
    }

    private static void settleState() {
        for (Ready ready : WITHOUT_BEST) {
            EDGES.refused(ready, "settle()", STATE, x -> x.settle());
        }
        GraveRows x = Ready.TWO.make();
        x.ahead(0, 1, 1);
        x.ahead(1, 0, 1);
        EDGES.due("two, each ahead of the other", x.settle(), STATE);
        x.ahead(1, 0, 0);
        EDGES.due("one no more", x.settle(), 1);
    }

    // ---- 23 count

    private static void countMany() {
        for (int n = 1; n <= 8; n++) {
            GraveRows x = new GraveRows();
            x.many(n);
            EDGES.due("count(0)", x.count(0), n);
        }
    }

    private static void countFinds() {
        EDGES.due("none", Ready.EIGHT.make().count(1), 0);
        EDGES.due("all of one", Ready.ONE.make().count(1), 10);
        EDGES.due("all of eight", Ready.ALL.make().count(1), 80);
    }

    private static void countPairs() {
        EDGES.due("none", Ready.EIGHT.make().count(2), 0);
        EDGES.due("one", Ready.SOME.make().count(2), 1);
        EDGES.due("both ways are two", Ready.NONE_ALLOWED.make().count(2), 2);
        EDGES.due("all of eight", Ready.ALL.make().count(2), 56);
    }

    private static void countImages() {
        EDGES.due("none", Ready.NEW.make().count(3), 0);
        EDGES.due("the first", Ready.ONE.make().count(3), 1);
        EDGES.due("the second", Ready.SOME.make().count(3), 2);
        EDGES.due("both", Ready.ALL.make().count(3), 3);
    }

    private static void countOutside() {
        for (Ready ready : Ready.values()) {
            for (int what : Edges.outside(0, 3)) {
                EDGES.refused(ready, "count(" + what + ")", OUTSIDE, x -> x.count(what));
            }
        }
    }

    private static void firstFive() {
        EDGES.sentence("16", "The GRAVE at a place of THE ROW.", RowEdgesTest::rowAtItsEnds);
        EDGES.sentence("16", "OUTSIDE.", RowEdgesTest::rowOutside);
        EDGES.sentence("17", "BREAKS of THE ROW (what = 0)", RowEdgesTest::breaksOfTheRow);
        EDGES.sentence("17", "whether it is ALLOWED (1: 1, 0)", RowEdgesTest::rowIsAllowed);
        EDGES.sentence("17", "whether it is BEST (2)", RowEdgesTest::rowIsBest);
        EDGES.sentence("17", "OUTSIDE.", RowEdgesTest::breaksOutside);
        EDGES.sentence("18", "SWAP k is made", RowEdgesTest::swapAtTheEnds);
        EDGES.sentence("18", "BREAKS of THE ROW then", RowEdgesTest::breaksThen);
        EDGES.sentence("18", "OUTSIDE: there are no such places.", RowEdgesTest::swapOutside);
        EDGES.sentence("19", "The best SWAP is made: which", RowEdgesTest::whichIsBest);
        EDGES.sentence("19", "NONE: none is GOOD.", RowEdgesTest::noneIsGood);
        EDGES.sentence("19", "The best SWAP is made", RowEdgesTest::betterLooksAtBreaksAlone);
        EDGES.sentence("20", "until none is GOOD", RowEdgesTest::climbsNone);
        EDGES.sentence("20", "Best SWAPS are made, one after the other", RowEdgesTest::climbsAsBetterDoes);
    }

    private static void lastThree() {
        EDGES.sentence("21", "STEPS from THE ROW to THE NEAREST (place = -1)",
            RowEdgesTest::stepsToTheNearest);
        EDGES.sentence("21", "the GRAVE at a place of it", RowEdgesTest::graveOfTheNearest);
        EDGES.sentence("21", "NONE: there is none.", RowEdgesTest::noNearest);
        EDGES.sentence("21", "OUTSIDE.", RowEdgesTest::nearestOutside);
        EDGES.sentence("22", "THE ROW becomes THE NEAREST: how many STEPS that were.",
            RowEdgesTest::howManyStepsThatWere);
        EDGES.sentence("22", "STATE: there is none.", RowEdgesTest::settleState);
        EDGES.sentence("23", "MANY (what = 0)", RowEdgesTest::countMany);
        EDGES.sentence("23", "how often a GRAVE HAS a SORT, of all (1)", RowEdgesTest::countFinds);
        EDGES.sentence("23", "how many GRAVES are KNOWN to be ahead of others, pair by pair (2)",
            RowEdgesTest::countPairs);
        EDGES.sentence("23", "which IMAGES are kept (3: 1 the first, 2 the second, added)",
            RowEdgesTest::countImages);
        EDGES.sentence("23", "OUTSIDE.", RowEdgesTest::countOutside);
    }

    public static void main(String[] args) {
        firstFive();
        lastThree();
        EDGES.end("RowEdgesTest");
    }
}

import java.util.Random;

/** The edges that 'What it is' and 'Terms' name, sentence by sentence. */
public final class TermsEdgesTest {
    private static final int UNKNOWN = GraveRows.UNKNOWN, OUTSIDE = GraveRows.OUTSIDE;
    private static final int STATE = GraveRows.STATE, NONE = GraveRows.NONE;
    private static final int MOST_CALLS = 512, CALLS_OF_ONLY_ONE_BEST = 49;
    private static final Edges EDGES = new Edges();

    // ---- what it is

    /** Dear calls, each after a change, so that nothing can be remembered: the last is answered too. */
    private static void fiveHundredAndTwelveCalls() {
        GraveRows x = new GraveRows();
        EDGES.due("call 1", x.many(8), 4);
        for (int call = 2; call <= MOST_CALLS; call++) {
            int on = call % 2;
            switch (call % 3) {
                case 0: EDGES.due("call " + call, x.find(7, 9, on), on); break;
                case 1: EDGES.due("call " + call, x.best(), 40320); break;
                default: EDGES.due("call " + call, x.clump(-1), 1); break;
            }
        }
    }

    private static void eachCallAsTheLast() {
        int[] due = {
            8, 10, 7, 6, 3, 10, 30, 1, 7, 64, 6, 1, 1, 28, 6, 30, 30, NONE, 0, 1, 0, 40, 1, STATE};
        for (int kind = 0; kind < due.length; kind++) {
            GraveRows x = Ready.ONLY_ONE_BEST.make();
            for (int call = CALLS_OF_ONLY_ONE_BEST + 1; call < MOST_CALLS; call++) {
                callOf(kind, x);
            }
            EDGES.due("call 512, kind " + kind, callOf(kind, x), due[kind]);
        }
    }

    private static int callOf(int kind, GraveRows x) {
        switch (kind) {
            case 0: return x.many(8);
            case 1: return x.find(0, 9, 1);
            case 2: return x.ahead(0, 1, 1);
            case 3: return x.grave(7, 3);
            case 4: return x.sort(9, 2);
            case 5: return x.alike(0, 2);
            case 6: return x.least();
            case 7: return x.best();
            case 8: return x.order(0, 7);
            case 9: return x.beside(7, 0);
            case 10: return x.place(6, 1);
            case 11: return x.before(0, 7);
            case 12: return x.together(255);
            case 13: return x.clump(-1);
            case 14: return x.row(7);
            case 15: return x.breaks(0);
            case 16: return x.swap(6);
            case 17: return x.better();
            case 18: return x.climb();
            case 19: return x.nearest(-1);
            case 20: return x.settle();
            case 21: return x.count(1);
            case 22: return x.image(1);
            default: return x.restore(0);
        }
    }

    /** Later answers are free, but no call may ever throw or fail to end. */
    private static void laterCallsEnd() {
        Random chance = new Random(1);
        GraveRows x = Ready.ALL.make();
        int calls = 0;
        for (; calls < 4 * MOST_CALLS; calls++) {
            x.many(chance.nextInt(10));
            x.find(chance.nextInt(9), chance.nextInt(11), chance.nextInt(3));
            x.ahead(chance.nextInt(9), chance.nextInt(9), chance.nextInt(3));
            x.nearest(chance.nextInt(10) - 1);
            x.clump(chance.nextInt(300) - 2);
            x.image(chance.nextInt(3));
            x.restore(chance.nextInt(3));
            x.settle();
        }
        EDGES.due("all ended", calls, 4 * MOST_CALLS);
    }

    // ---- refusals

    private static void theConstants() {
        EDGES.due("UNKNOWN", GraveRows.UNKNOWN, -1);
        EDGES.due("OUTSIDE", GraveRows.OUTSIDE, -2);
        EDGES.due("STATE", GraveRows.STATE, -3);
        EDGES.due("NO", GraveRows.NO, -5);
        EDGES.due("NONE", GraveRows.NONE, -6);
    }

    private static void theFirstThatFits() {
        for (Ready ready : Ready.values()) {
            int n = ready.graves();
            EDGES.refused(ready, "find(many, 0, 2)", UNKNOWN, x -> x.find(n, 0, 2));
            EDGES.refused(ready, "find(0, 10, 2)", UNKNOWN, x -> x.find(0, 10, 2));
            EDGES.refused(ready, "ahead(many, many, 2)", UNKNOWN, x -> x.ahead(n, n, 2));
            EDGES.refused(ready, "grave(many, 4)", UNKNOWN, x -> x.grave(n, 4));
            EDGES.refused(ready, "sort(10, 3)", UNKNOWN, x -> x.sort(10, 3));
            EDGES.refused(ready, "beside(many, 2)", UNKNOWN, x -> x.beside(n, 2));
            EDGES.refused(ready, "place(many, 10 and many)", UNKNOWN, x -> x.place(n, 10 + n));
            EDGES.refused(ready, "before(many, many)", UNKNOWN, x -> x.before(n, n));
        }
        // Image 2 is no image, and nothing was kept in it either.
        EDGES.refused(Ready.NEW, "restore(2)", OUTSIDE, x -> x.restore(2));
        EDGES.refused(Ready.NEW, "restore(-1)", OUTSIDE, x -> x.restore(-1));
    }

    private static void noneOnlyWhereNoRefusalFits() {
        for (Ready ready : new Ready[] {Ready.NONE_ALLOWED, Ready.ALL}) {
            int n = ready.graves();
            EDGES.refused(ready, "sort(10, 2)", UNKNOWN, x -> x.sort(10, 2));
            EDGES.refused(ready, "sort(0, 3)", OUTSIDE, x -> x.sort(0, 3));
            EDGES.refused(ready, "order(0, many)", OUTSIDE, x -> x.order(0, n));
            EDGES.refused(ready, "order(-1, 0)", OUTSIDE, x -> x.order(-1, 0));
            EDGES.refused(ready, "place(many, 0)", UNKNOWN, x -> x.place(n, 0));
            EDGES.refused(ready, "place(0, 2)", OUTSIDE, x -> x.place(0, 2));
            EDGES.refused(ready, "clump(-2)", OUTSIDE, x -> x.clump(-2));
            EDGES.refused(ready, "nearest(many)", OUTSIDE, x -> x.nearest(n));
            EDGES.refused(ready, "nearest(-2)", OUTSIDE, x -> x.nearest(-2));
            EDGES.refused(ready, "settle()", STATE, x -> x.settle());
        }
    }

    /** Many refusals, one after the other: what stands after all of them is as before. */
    private static void refusedChangesNothing() {
        for (Ready ready : Ready.values()) {
            GraveRows x = ready.make();
            int n = ready.graves();
            x.many(0);
            x.many(9);
            for (int g = 0; g < n; g++) {
                x.find(g, 10, 1);
                x.find(g, 0, 2);
                x.find(n, g, 1);
                x.ahead(g, g, 1);
                x.ahead(g, n, 1);
                x.ahead(n, g, 0);
            }
            x.swap(-1);
            x.swap(n - 1);
            x.image(2);
            x.restore(2);
            EDGES.due(ready + " changed", Calls.whole(x), Calls.whole(ready.make()));
        }
    }

    private static void aSetIsANumber() {
        for (int g = 0; g < 8; g++) {
            GraveRows x = Ready.EIGHT.make();
            int other = (g + 1) % 8;
            x.ahead(other, g, 1);
            EDGES.due("ahead of " + g, x.grave(other, 1), 1 << g);
            EDGES.due("behind " + other, x.grave(g, 2), 1 << other);
            EDGES.due("the set of it alone", x.together(1 << g), 20160);
        }
        for (int s = 0; s < 10; s++) {
            GraveRows x = Ready.ONE.make();
            x.find(0, s, 0);
            EDGES.due("all but " + s, x.grave(0, 0), 1023 - (1 << s));
            GraveRows y = new GraveRows();
            y.find(3, s, 1);
            EDGES.due("only " + s, y.grave(3, 0), 1 << s);
        }
    }

    // ---- term 1

    private static void gravesAndSorts() {
        GraveRows x = new GraveRows();
        EDGES.due("four at first", x.count(0), 4);
        EDGES.due("1 is the least", x.many(1), 4);
        EDGES.due("0 is too few", x.many(0), OUTSIDE);
        EDGES.due("8 is the most", x.many(8), 1);
        EDGES.due("9 is too many", x.many(9), OUTSIDE);
        EDGES.due("eight", x.count(0), 8);
        EDGES.due("grave 0, sort 0", x.find(0, 0, 1), 1);
        EDGES.due("grave 7, sort 9", x.find(7, 9, 1), 1);
        EDGES.due("grave 8", x.find(8, 9, 1), UNKNOWN);
        EDGES.due("sort 10", x.find(7, 10, 1), UNKNOWN);
    }

    private static void noneHadAtFirst() {
        for (int n = 1; n <= 8; n++) {
            GraveRows x = new GraveRows();
            x.many(n);
            EDGES.due("none, of " + n, x.count(1), 0);
            EDGES.due("some", x.find(n - 1, 9, 1), 1);
        }
    }

    private static void noneKnownAtFirst() {
        for (int n = 2; n <= 8; n++) {
            GraveRows x = new GraveRows();
            x.many(n);
            EDGES.due("none, of " + n, x.count(2), 0);
            EDGES.due("one", x.ahead(n - 1, 0, 1), 1);
        }
    }

    private static void eachGraveOnce() {
        for (int n = 1; n <= 8; n++) {
            GraveRows x = new GraveRows();
            x.many(n);
            x.find(0, 0, 1);
            x.find(n - 1, 0, 1);
            int best = x.best();
            for (int i : new int[] {0, best / 2, best - 1}) {
                int met = 0;
                for (int p = 0; p < n; p++) {
                    met |= 1 << x.order(i, p);
                }
                EDGES.due("order " + i + " of " + n, met, (1 << n) - 1);
                EDGES.due("place -1", x.order(i, -1), OUTSIDE);
                EDGES.due("place " + n, x.order(i, n), OUTSIDE);
            }
        }
    }

    private static void allowed() {
        for (int one = 0; one < 8; one++) {
            for (int other = 0; other < 8; other++) {
                if (one != other) {
                    GraveRows x = Ready.EIGHT.make();
                    x.ahead(one, other, 1);
                    EDGES.due(one + " ahead of " + other, x.breaks(1), one < other ? 1 : 0);
                    EDGES.due("half of all", x.best(), 20160);
                    Calls.turnRound(x);
                    EDGES.due("turned round", x.breaks(1), one < other ? 0 : 1);
                }
            }
        }
    }

    private static void oneRunIsAsLongAsCanBe() {
        GraveRows x = Ready.EIGHT.make();
        for (int g = 0; g < 8; g++) {
            x.find(g, 0, 1);
            EDGES.due("one run of " + (g + 1), x.sort(0, 1), 0);
        }
        x.find(3, 0, 0);
        EDGES.due("two runs", x.sort(0, 1), 1);
        x.find(4, 0, 0);
        EDGES.due("a longer gap is one gap", x.sort(0, 1), 1);
        x.find(7, 0, 0);
        x.find(0, 0, 0);
        EDGES.due("no run at the ends", x.sort(0, 1), 1);
    }

    /** The graves of a set have the sort: its runs are the stretches of ones in the number. */
    private static void runsAndBreaks() {
        for (int set = 0; set < 256; set++) {
            GraveRows x = Ready.EIGHT.make();
            for (int g = 0; g < 8; g++) {
                x.find(g, 9, set >> g & 1);
            }
            int runs = Integer.bitCount(set & ~(set << 1));
            int due = set == 0 ? 0 : runs - 1;
            EDGES.due("breaks of the sort, " + set, x.sort(9, 1), due);
            EDGES.due("breaks of the row, " + set, x.breaks(0), due);
            EDGES.due("it can lie together, " + set, x.least(), 0);
        }
    }

    private static void breaksOfAllSortsAdded() {
        GraveRows x = Ready.EIGHT.make();
        for (int s = 0; s < 10; s++) {
            EDGES.due("with " + s + " sorts", x.breaks(0), 3 * s);
            for (int g = 1; g < 8; g += 2) {
                x.find(g, s, 1);
            }
        }
        EDGES.due("with all sorts", x.breaks(0), 30);
        EDGES.due("each", x.sort(0, 1), 3);
    }

    private static void noAllowedOneHasFewer() {
        GraveRows x = Calls.graves(1, 0, 1);
        x.ahead(0, 1, 1);
        x.ahead(1, 2, 1);
        EDGES.due("only 0, 1, 2 is allowed", x.best(), 1);
        EDGES.due("with a break", x.least(), 1);
        x.ahead(1, 2, 0);
        EDGES.due("0, 2, 1 and 2, 0, 1 have none", x.best(), 2);
        EDGES.due("then 0, 1, 2 is not best", x.breaks(2), 0);
    }

    private static void thereMayBeNone() {
        EDGES.due("none", Ready.NONE_ALLOWED.make().best(), 0);
        EDGES.due("none, all known", Ready.ALL.make().best(), 0);
        EDGES.due("one grave has always one", Ready.ONE.make().best(), 1);
    }

    private static void ordersGoByGraves() {
        GraveRows x = Ready.EIGHT.make();
        EDGES.due("the first", Calls.bestOrder(x, 0), "01234567");
        EDGES.due("the last place changes first", Calls.bestOrder(x, 1), "01234576");
        EDGES.due("the last that begins with 0", Calls.bestOrder(x, 5039), "07654321");
        EDGES.due("the first that begins with 1", Calls.bestOrder(x, 5040), "10234567");
        EDGES.due("the last", Calls.bestOrder(x, 40319), "76543210");
    }

    // ---- term 2

    private static void theRowAtFirst() {
        EDGES.due("four", Calls.rowOf(new GraveRows()), "0123");
        GraveRows x = new GraveRows();
        x.ahead(3, 0, 1);
        EDGES.due("not allowed, and as it was", Calls.rowOf(x), "0123");
        EDGES.due("not allowed", x.breaks(1), 0);
    }

    private static void aSwapOfNeighbours() {
        String[] due = {
            "10234567", "02134567", "01324567", "01243567", "01235467", "01234657", "01234576"};
        for (int k = 0; k < 7; k++) {
            GraveRows x = Ready.EIGHT.make();
            x.swap(k);
            EDGES.due("swap(" + k + ")", Calls.rowOf(x), due[k]);
        }
    }

    private static void aGoodSwap() {
        EDGES.due("as many breaks are not fewer", Calls.graves(1, 0, 0, 1).better(), NONE);
        EDGES.due("one break fewer is", Calls.graves(1, 0, 1).better(), 0);
        EDGES.due("ten fewer are", Calls.graves(1023, 0, 1023).better(), 0);
    }

    private static void theBestSwap() {
        EDGES.due("of four the least k", Calls.graves(1, 0, 1, 0, 2, 0, 2, 0).better(), 0);
        EDGES.due("of two the least k", Calls.graves(0, 0, 0, 0, 2, 0, 2, 0).better(), 4);
        EDGES.due("two fewer before one", Calls.graves(1, 0, 1, 0, 6, 0, 6, 0).better(), 4);
    }

    /** Each place that a grave moves is a swap of its own, and no swap serves two pairs. */
    private static void theLeastNumberOfSwaps() {
        for (int n = 2; n <= 8; n++) {
            GraveRows x = new GraveRows();
            x.many(n);
            for (int g = 0; g < n - 1; g++) {
                x.ahead(n - 1, g, 1);
            }
            EDGES.due("the last to the first place, of " + n, x.nearest(-1), n - 1);
            for (int k = n - 2; k >= 0; k--) {
                x.swap(k);
                EDGES.due("after swap(" + k + ")", x.nearest(-1), k);
            }
        }
    }

    private static void theNearestIsTheFirstOfSuch() {
        GraveRows x = Calls.graves(1, 0, 1);
        EDGES.due("021 and 102 are a step away", x.nearest(-1), 1);
        EDGES.due("021 is the first", "" + x.nearest(0) + x.nearest(1) + x.nearest(2), "021");
        x.settle();
        EDGES.due("021", Calls.rowOf(x), "021");
        GraveRows y = Calls.graves(1, 0, 1);
        Calls.turnRound(y);
        EDGES.due("of 210: 201 and 120 are a step away", y.nearest(-1), 1);
        EDGES.due("120 is the first", "" + y.nearest(0) + y.nearest(1) + y.nearest(2), "120");
    }

    private static void whatItIsAndRefusals() {
        EDGES.sentence("What it is", "An object is used for at most 512 calls after it has been made",
            TermsEdgesTest::fiveHundredAndTwelveCalls);
        EDGES.sentence("What it is", "An object is used for at most 512 calls after it has been made",
            TermsEdgesTest::eachCallAsTheLast);
        EDGES.sentence("What it is", "what later calls answer is free", TermsEdgesTest::laterCallsEnd);
        EDGES.sentence("Terms", "What refused calls answer; NONE: there is none.",
            TermsEdgesTest::theConstants);
        EDGES.sentence("Terms", "Calls that are refused answer the first that fits",
            TermsEdgesTest::theFirstThatFits);
        EDGES.sentence("Terms", "NONE is told only where no refusal fits.",
            TermsEdgesTest::noneOnlyWhereNoRefusalFits);
        EDGES.sentence("Terms", "What is refused changes nothing.", TermsEdgesTest::refusedChangesNothing);
        EDGES.sentence("Terms", "A set is a number: bit i", TermsEdgesTest::aSetIsANumber);
    }

    private static void termOne() {
        EDGES.sentence("Terms 1",
            "There are MANY GRAVES, 1 to 8 (4 at first), numbered from 0 on, and SORTS 0 to 9.",
            TermsEdgesTest::gravesAndSorts);
        EDGES.sentence("Terms 1", "An ORDER has each GRAVE once; its places are 0 to MANY less 1.",
            TermsEdgesTest::eachGraveOnce);
        EDGES.sentence("Terms 1",
            "It is ALLOWED, if each GRAVE lies before all those that it is KNOWN to be ahead of.",
            TermsEdgesTest::allowed);
        EDGES.sentence("Terms 1", "A GRAVE HAS some SORTS (none at first).", TermsEdgesTest::noneHadAtFirst);
        EDGES.sentence("Terms 1", "A GRAVE may be KNOWN to be ahead of another one (none is at first).",
            TermsEdgesTest::noneKnownAtFirst);
        EDGES.sentence("Terms 1", "GRAVES that HAVE it and lie at places one after the other, as many as do.",
            TermsEdgesTest::oneRunIsAsLongAsCanBe);
        EDGES.sentence("Terms 1", "BREAKS of a SORT: how many RUNS it has, less one; 0, if it has none.",
            TermsEdgesTest::runsAndBreaks);
        EDGES.sentence("Terms 1", "BREAKS of an ORDER: those of all SORTS, added.",
            TermsEdgesTest::breaksOfAllSortsAdded);
        EDGES.sentence("Terms 1", "An ORDER is BEST, if it is ALLOWED and no ALLOWED one has fewer BREAKS.",
            TermsEdgesTest::noAllowedOneHasFewer);
        EDGES.sentence("Terms 1", "There may be none, if none is ALLOWED.", TermsEdgesTest::thereMayBeNone);
        EDGES.sentence("Terms 1", "ORDERS go by the GRAVE at place 0, the lesser first",
            TermsEdgesTest::ordersGoByGraves);
    }

    private static void termTwo() {
        EDGES.sentence("Terms 2", "THE ROW is an ORDER, ALLOWED or not (0, 1, 2 .. at first).",
            TermsEdgesTest::theRowAtFirst);
        EDGES.sentence("Terms 2", "SWAP k: the GRAVES at places k and k + 1 of THE ROW change places.",
            TermsEdgesTest::aSwapOfNeighbours);
        EDGES.sentence("Terms 2", "A SWAP is GOOD, if THE ROW has fewer BREAKS then than before.",
            TermsEdgesTest::aGoodSwap);
        EDGES.sentence("Terms 2",
            "of all GOOD ones that by which there are fewest BREAKS, of such the least k.",
            TermsEdgesTest::theBestSwap);
        EDGES.sentence("Terms 2", "the least number of SWAPS by which it becomes that.",
            TermsEdgesTest::theLeastNumberOfSwaps);
        EDGES.sentence("Terms 2",
            "of all BEST ORDERS that to which there are fewest STEPS, of such the first.",
            TermsEdgesTest::theNearestIsTheFirstOfSuch);
    }

    public static void main(String[] args) {
        whatItIsAndRefusals();
        termOne();
        termTwo();
        EDGES.end("TermsEdgesTest");
    }
}

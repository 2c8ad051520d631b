/** The edges of promises 1 to 7, sentence by sentence: a new object, many, find .. alike. */
public final class GravesEdgesTest {
    private static final int UNKNOWN = GraveRows.UNKNOWN, OUTSIDE = GraveRows.OUTSIDE;
    private static final int STATE = GraveRows.STATE, NONE = GraveRows.NONE;
    private static final int[] NO_SORTS = Edges.outside(0, 9);
    private static final int[] NOT_ON_OR_OFF = Edges.outside(0, 1);
    private static final Edges EDGES = new Edges();

    // ---- 1 a new object

    private static void fourGraves() {
        GraveRows x = new GraveRows();
        EDGES.due("count(0)", x.count(0), 4);
        EDGES.due("grave(-1, 3)", x.grave(-1, 3), UNKNOWN);
        EDGES.due("grave(0, 3)", x.grave(0, 3), 0);
        EDGES.due("grave(3, 3)", x.grave(3, 3), 3);
        EDGES.due("grave(4, 3)", x.grave(4, 3), UNKNOWN);
        EDGES.due("row", Calls.rowOf(x), "0123");
    }

    private static void newGravesHaveNothing() {
        GraveRows x = new GraveRows();
        for (int g = 0; g < 4; g++) {
            EDGES.due("grave(" + g + ", 0)", x.grave(g, 0), 0);
        }
        for (int s = 0; s < 10; s++) {
            EDGES.due("sort(" + s + ", 0)", x.sort(s, 0), 0);
        }
        EDGES.due("count(1)", x.count(1), 0);
    }

    private static void nothingIsKnown() {
        GraveRows x = new GraveRows();
        for (int g = 0; g < 4; g++) {
            EDGES.due("grave(" + g + ", 1)", x.grave(g, 1), 0);
            EDGES.due("grave(" + g + ", 2)", x.grave(g, 2), 0);
        }
        EDGES.due("count(2)", x.count(2), 0);
        EDGES.due("best()", x.best(), 24);
    }

    private static void noImageIsKept() {
        EDGES.due("count(3)", new GraveRows().count(3), 0);
        EDGES.refused(Ready.NEW, "restore(0)", STATE, x -> x.restore(0));
        EDGES.refused(Ready.NEW, "restore(1)", STATE, x -> x.restore(1));
    }

    private static void anotherObjectIsNew() {
        Ready.ALL.make();
        EDGES.due("a new one beside one that has all", Calls.seen(new GraveRows()),
            "4 0 0 0 | 0 0 0 0 0 | 1 0 0 0 1 | 2 0 0 0 2 | 3 0 0 0 3 ");
    }

    // ---- 2 many

    private static void howManyThereWere() {
        for (int from = 1; from <= 8; from++) {
            for (int to = 1; to <= 8; to++) {
                GraveRows x = new GraveRows();
                EDGES.due("many(" + from + ") of four", x.many(from), 4);
                EDGES.due("many(" + to + ") of " + from, x.many(to), from);
                EDGES.due("count(0)", x.count(0), to);
                EDGES.due("the last grave", x.grave(to - 1, 3), to - 1);
                EDGES.due("one more", x.grave(to, 3), UNKNOWN);
            }
        }
    }

    /** All sorts and all pairs among so many graves; the row is turned round. */
    private static GraveRows allOf(int n) {
        GraveRows x = new GraveRows();
        x.many(n);
        for (int g = 0; g < n; g++) {
            for (int s = 0; s < 10; s++) {
                x.find(g, s, 1);
            }
            for (int h = 0; h < n; h++) {
                x.ahead(g, h, 1);
            }
        }
        Calls.turnRound(x);
        return x;
    }

    private static void thoseThatComeHaveNothing() {
        for (int from = 1; from <= 7; from++) {
            GraveRows x = allOf(from);
            x.many(8);
            for (int g = 0; g < 8; g++) {
                EDGES.due("grave " + g + " of " + from, x.grave(g, 0), g < from ? 1023 : 0);
            }
            EDGES.due("sort(9, 0)", x.sort(9, 0), from);
            EDGES.due("count(1)", x.count(1), 10 * from);
        }
    }

    private static void thoseThatComeBackHaveNothing() {
        for (int to = 1; to <= 7; to++) {
            GraveRows x = allOf(8);
            x.many(to);
            EDGES.due("count(1) of " + to, x.count(1), 10 * to);
            x.many(8);
            EDGES.due("the last that stayed", x.grave(to - 1, 0), 1023);
            EDGES.due("the first that went", x.grave(to, 0), 0);
            EDGES.due("the last that went", x.grave(7, 0), 0);
            EDGES.due("count(1)", x.count(1), 10 * to);
        }
    }

    private static void ofThoseThatGoNothingIsKnown() {
        for (int to = 1; to <= 8; to++) {
            GraveRows x = allOf(8);
            x.many(to);
            EDGES.due("count(2) of " + to, x.count(2), to * (to - 1));
            x.many(8);
            int stayed = (1 << to) - 1;
            for (int g = 0; g < 8; g++) {
                int due = g < to ? stayed & ~(1 << g) : 0;
                EDGES.due("ahead of, grave " + g + " of " + to, x.grave(g, 1), due);
                EDGES.due("behind, grave " + g + " of " + to, x.grave(g, 2), due);
            }
            EDGES.due("count(2)", x.count(2), to * (to - 1));
        }
    }

    private static void manyPutsTheRowBack() {
        for (int from = 1; from <= 8; from++) {
            for (int to = 1; to <= 8; to++) {
                GraveRows x = new GraveRows();
                x.many(from);
                Calls.turnRound(x);
                x.many(to);
                EDGES.due("row of " + to + " after " + from, Calls.rowOf(x), "01234567".substring(0, to));
            }
        }
    }

    private static void asManyAsThereWere() {
        GraveRows x = allOf(8);
        EDGES.due("many(8) of eight", x.many(8), 8);
        EDGES.due("count(1)", x.count(1), 80);
        EDGES.due("count(2)", x.count(2), 56);
        EDGES.due("row", Calls.rowOf(x), "01234567");
    }

    private static void manyOutside() {
        for (Ready ready : Ready.values()) {
            for (int n : Edges.outside(1, 8)) {
                EDGES.refused(ready, "many(" + n + ")", OUTSIDE, x -> x.many(n));
            }
        }
    }

    // ---- 3 find

    private static void howManySortsItHas() {
        for (int g : new int[] {0, 7}) {
            GraveRows x = Ready.EIGHT.make();
            EDGES.due("none, off", x.find(g, 0, 0), 0);
            for (int s = 0; s < 10; s++) {
                EDGES.due("one more", x.find(g, s, 1), s + 1);
                EDGES.due("that again", x.find(g, s, 1), s + 1);
            }
            EDGES.due("all", x.grave(g, 0), 1023);
            EDGES.due("of the others none", x.count(1), 10);
            for (int s = 0; s < 10; s++) {
                EDGES.due("one less", x.find(g, s, 0), 9 - s);
                EDGES.due("that again", x.find(g, s, 0), 9 - s);
            }
            EDGES.due("none", x.grave(g, 0), 0);
        }
    }

    private static void findUnknown() {
        for (Ready ready : Ready.values()) {
            for (int g : Edges.outside(0, ready.graves() - 1)) {
                EDGES.refused(ready, "find(" + g + ", 0, 1)", UNKNOWN, x -> x.find(g, 0, 1));
                EDGES.refused(ready, "find(" + g + ", 9, 0)", UNKNOWN, x -> x.find(g, 9, 0));
            }
            for (int s : NO_SORTS) {
                EDGES.refused(ready, "find(0, " + s + ", 1)", UNKNOWN, x -> x.find(0, s, 1));
                EDGES.refused(ready, "find(0, " + s + ", 0)", UNKNOWN, x -> x.find(0, s, 0));
            }
            EDGES.refused(ready, "find(8, 10, 1)", UNKNOWN, x -> x.find(8, 10, 1));
        }
    }

    private static void findOutside() {
        for (Ready ready : Ready.values()) {
            int last = ready.graves() - 1;
            for (int on : NOT_ON_OR_OFF) {
                EDGES.refused(ready, "find(0, 0, " + on + ")", OUTSIDE, x -> x.find(0, 0, on));
                EDGES.refused(ready, "find(last, 9, " + on + ")", OUTSIDE, x -> x.find(last, 9, on));
            }
        }
    }

    private static void findUnknownFirst() {
        for (Ready ready : Ready.values()) {
            int n = ready.graves();
            EDGES.refused(ready, "find(-1, 0, 2)", UNKNOWN, x -> x.find(-1, 0, 2));
            EDGES.refused(ready, "find(many, 9, -1)", UNKNOWN, x -> x.find(n, 9, -1));
            EDGES.refused(ready, "find(0, -1, 2)", UNKNOWN, x -> x.find(0, -1, 2));
            EDGES.refused(ready, "find(0, 10, -1)", UNKNOWN, x -> x.find(0, 10, -1));
            EDGES.refused(ready, "find(many, 10, 2)", UNKNOWN, x -> x.find(n, 10, 2));
        }
    }

    // ---- 4 ahead

    private static void howManyPairs() {
        GraveRows x = Ready.EIGHT.make();
        int pairs = 0;
        EDGES.due("none, off", x.ahead(0, 7, 0), 0);
        for (int one = 0; one < 8; one++) {
            for (int other = 0; other < 8; other++) {
                if (one != other) {
                    pairs++;
                    EDGES.due("one more", x.ahead(one, other, 1), pairs);
                    EDGES.due("that again", x.ahead(one, other, 1), pairs);
                }
            }
        }
        EDGES.due("all", pairs, 56);
        EDGES.due("off", x.ahead(7, 0, 0), 55);
        EDGES.due("off that was off", x.ahead(7, 0, 0), 55);
        EDGES.due("the other way stays", x.grave(0, 1), 254);
        EDGES.due("this way does not", x.grave(7, 1), 126);
    }

    private static void pairsGoToNone() {
        GraveRows x = Ready.TWO.make();
        EDGES.due("one way", x.ahead(0, 1, 1), 1);
        EDGES.due("and the other", x.ahead(1, 0, 1), 2);
        EDGES.due("less", x.ahead(0, 1, 0), 1);
        EDGES.due("none", x.ahead(1, 0, 0), 0);
        EDGES.due("the row stays", Calls.rowOf(x), "10");
    }

    private static void aheadUnknown() {
        for (Ready ready : Ready.values()) {
            for (int g : Edges.outside(0, ready.graves() - 1)) {
                EDGES.refused(ready, "ahead(" + g + ", 0, 1)", UNKNOWN, x -> x.ahead(g, 0, 1));
                EDGES.refused(ready, "ahead(0, " + g + ", 1)", UNKNOWN, x -> x.ahead(0, g, 1));
                EDGES.refused(ready, "ahead(0, " + g + ", 0)", UNKNOWN, x -> x.ahead(0, g, 0));
            }
            EDGES.refused(ready, "ahead(-1, 8, 1)", UNKNOWN, x -> x.ahead(-1, 8, 1));
        }
    }

    private static void aheadOutside() {
        for (Ready ready : Ready.values()) {
            int last = ready.graves() - 1;
            for (int g = 0; g <= last; g++) {
                int same = g;
                EDGES.refused(ready, "ahead(g, g, 1)", OUTSIDE, x -> x.ahead(same, same, 1));
                EDGES.refused(ready, "ahead(g, g, 0)", OUTSIDE, x -> x.ahead(same, same, 0));
            }
            for (int on : NOT_ON_OR_OFF) {
                EDGES.refused(ready, "ahead(0, last, " + on + ")", OUTSIDE, x -> x.ahead(0, last, on));
                EDGES.refused(ready, "ahead(last, 0, " + on + ")", OUTSIDE, x -> x.ahead(last, 0, on));
            }
            EDGES.refused(ready, "ahead(0, 0, 2)", OUTSIDE, x -> x.ahead(0, 0, 2));
        }
    }

    private static void aheadUnknownFirst() {
        for (Ready ready : Ready.values()) {
            int n = ready.graves();
            EDGES.refused(ready, "ahead(many, many, 1)", UNKNOWN, x -> x.ahead(n, n, 1));
            EDGES.refused(ready, "ahead(-1, -1, 0)", UNKNOWN, x -> x.ahead(-1, -1, 0));
            EDGES.refused(ready, "ahead(-1, 0, 2)", UNKNOWN, x -> x.ahead(-1, 0, 2));
            EDGES.refused(ready, "ahead(0, many, -1)", UNKNOWN, x -> x.ahead(0, n, -1));
            EDGES.refused(ready, "ahead(many, many, 2)", UNKNOWN, x -> x.ahead(n, n, 2));
        }
    }

    // ---- 5 grave

    private static void theSetOfItsSorts() {
        for (int g = 0; g < 8; g++) {
            EDGES.due("nothing, grave " + g, Ready.EIGHT.make().grave(g, 0), 0);
            EDGES.due("all, grave " + g, Ready.ALL.make().grave(g, 0), 1023);
        }
        EDGES.due("the only grave", Ready.ONE.make().grave(0, 0), 1023);
        EDGES.due("the first sort and the last", Calls.graves(513).grave(0, 0), 513);
    }

    private static void thoseThatItIsAheadOf() {
        for (int g = 0; g < 8; g++) {
            EDGES.due("nothing, grave " + g, Ready.EIGHT.make().grave(g, 1), 0);
            EDGES.due("all, grave " + g, Ready.ALL.make().grave(g, 1), 255 - (1 << g));
            EDGES.due("the next one, grave " + g, Ready.ONLY_ONE_BEST.make().grave(g, 1), 2 << g & 255);
        }
        EDGES.due("the only grave", Ready.ONE.make().grave(0, 1), 0);
    }

    private static void thoseAheadOfIt() {
        for (int g = 0; g < 8; g++) {
            EDGES.due("nothing, grave " + g, Ready.EIGHT.make().grave(g, 2), 0);
            EDGES.due("all, grave " + g, Ready.ALL.make().grave(g, 2), 255 - (1 << g));
            EDGES.due("the one before, grave " + g, Ready.ONLY_ONE_BEST.make().grave(g, 2), 1 << g >> 1);
        }
        EDGES.due("the only grave", Ready.ONE.make().grave(0, 2), 0);
    }

    private static void thePlaceOfIt() {
        for (int g = 0; g < 8; g++) {
            EDGES.due("as at first, grave " + g, Ready.EIGHT.make().grave(g, 3), g);
            EDGES.due("turned round, grave " + g, Ready.ALL.make().grave(g, 3), 7 - g);
        }
        EDGES.due("the only grave", Ready.ONE.make().grave(0, 3), 0);
    }

    private static void graveUnknown() {
        for (Ready ready : Ready.values()) {
            for (int g : Edges.outside(0, ready.graves() - 1)) {
                EDGES.refused(ready, "grave(" + g + ", 0)", UNKNOWN, x -> x.grave(g, 0));
                EDGES.refused(ready, "grave(" + g + ", 3)", UNKNOWN, x -> x.grave(g, 3));
                EDGES.refused(ready, "first, grave(" + g + ", 4)", UNKNOWN, x -> x.grave(g, 4));
                EDGES.refused(ready, "first, grave(" + g + ", -1)", UNKNOWN, x -> x.grave(g, -1));
            }
        }
    }

    private static void graveOutside() {
        for (Ready ready : Ready.values()) {
            int last = ready.graves() - 1;
            for (int what : Edges.outside(0, 3)) {
                EDGES.refused(ready, "grave(last, " + what + ")", OUTSIDE, x -> x.grave(last, what));
            }
        }
    }

    // ---- 6 sort

    private static void howManyGravesHaveIt() {
        for (int s : new int[] {0, 9}) {
            GraveRows x = Ready.EIGHT.make();
            EDGES.due("nobody", x.sort(s, 0), 0);
            for (int g = 0; g < 8; g++) {
                x.find(g, s, 1);
                EDGES.due("one more", x.sort(s, 0), g + 1);
            }
            EDGES.due("another sort", x.sort(9 - s, 0), 0);
        }
    }

    private static void breaksOfASortInTheRow() {
        EDGES.due("nobody has it", new GraveRows().sort(9, 1), 0);
        EDGES.due("one grave", Ready.ONE.make().sort(9, 1), 0);
        EDGES.due("all have it", Ready.ALL.make().sort(0, 1), 0);
        EDGES.due("first and last", Calls.graves(1, 0, 0, 0, 0, 0, 0, 1).sort(0, 1), 1);
        EDGES.due("every other one of eight", Calls.graves(512, 0, 512, 0, 512, 0, 512, 0).sort(9, 1), 3);
        EDGES.due("every other one, from the second", Calls.graves(0, 1, 0, 1, 0, 1, 0, 1).sort(0, 1), 3);
    }

    private static void fewestBreaksOfASort() {
        EDGES.due("nobody has it", new GraveRows().sort(0, 2), 0);
        EDGES.due("one grave", Ready.ONE.make().sort(0, 2), 0);
        for (int s = 0; s < 10; s++) {
            EDGES.due("most", Ready.ONLY_ONE_BEST.make().sort(s, 2), 3);
        }
    }

    private static void noneForASort() {
        for (int s = 0; s < 10; s++) {
            EDGES.due("none", Ready.NONE_ALLOWED.make().sort(s, 2), NONE);
            EDGES.due("none, all there", Ready.ALL.make().sort(s, 2), NONE);
        }
        GraveRows x = Ready.NONE_ALLOWED.make();
        EDGES.due("graves are told", x.sort(0, 0), 2);
        EDGES.due("breaks in the row are told", x.sort(1, 1), 0);
    }

    private static void sortUnknown() {
        for (Ready ready : Ready.values()) {
            for (int s : NO_SORTS) {
                EDGES.refused(ready, "sort(" + s + ", 0)", UNKNOWN, x -> x.sort(s, 0));
                EDGES.refused(ready, "sort(" + s + ", 2)", UNKNOWN, x -> x.sort(s, 2));
                EDGES.refused(ready, "first, sort(" + s + ", 3)", UNKNOWN, x -> x.sort(s, 3));
                EDGES.refused(ready, "first, sort(" + s + ", -1)", UNKNOWN, x -> x.sort(s, -1));
            }
        }
    }

    private static void sortOutside() {
        for (Ready ready : Ready.values()) {
            for (int what : Edges.outside(0, 2)) {
                EDGES.refused(ready, "sort(0, " + what + ")", OUTSIDE, x -> x.sort(0, what));
                EDGES.refused(ready, "sort(9, " + what + ")", OUTSIDE, x -> x.sort(9, what));
            }
        }
    }

    // ---- 7 alike

    private static void alikeNoneAndAll() {
        EDGES.due("nothing, two", Ready.EIGHT.make().alike(0, 7), 0);
        EDGES.due("nothing, one", Ready.EIGHT.make().alike(7, 7), 0);
        EDGES.due("all, two", Ready.ALL.make().alike(7, 0), 10);
        EDGES.due("all, one", Ready.ALL.make().alike(0, 0), 10);
        EDGES.due("no sort in both", Calls.graves(341, 682).alike(0, 1), 0);
        EDGES.due("the first sort", Calls.graves(1, 1).alike(0, 1), 1);
        EDGES.due("the last sort", Calls.graves(512, 1023).alike(1, 0), 1);
    }

    private static void alikeUnknown() {
        for (Ready ready : Ready.values()) {
            for (int g : Edges.outside(0, ready.graves() - 1)) {
                EDGES.refused(ready, "alike(" + g + ", 0)", UNKNOWN, x -> x.alike(g, 0));
                EDGES.refused(ready, "alike(0, " + g + ")", UNKNOWN, x -> x.alike(0, g));
                EDGES.refused(ready, "alike(" + g + ", the same)", UNKNOWN, x -> x.alike(g, g));
            }
        }
    }

    private static void firstThree() {
        EDGES.sentence("1", "Four GRAVES", GravesEdgesTest::fourGraves);
        EDGES.sentence("1", "that HAVE nothing", GravesEdgesTest::newGravesHaveNothing);
        EDGES.sentence("1", "nothing KNOWN", GravesEdgesTest::nothingIsKnown);
        EDGES.sentence("1", "no IMAGE is kept", GravesEdgesTest::noImageIsKept);
        EDGES.sentence("1", "A new object", GravesEdgesTest::anotherObjectIsNew);
        EDGES.sentence("2", "how many there were", GravesEdgesTest::howManyThereWere);
        EDGES.sentence("2", "Those that come HAVE nothing", GravesEdgesTest::thoseThatComeHaveNothing);
        EDGES.sentence("2", "Those that come HAVE nothing", GravesEdgesTest::thoseThatComeBackHaveNothing);
        EDGES.sentence("2", "of those that go nothing is KNOWN any more",
            GravesEdgesTest::ofThoseThatGoNothingIsKnown);
        EDGES.sentence("2", "THE ROW is 0, 1, 2 .. again", GravesEdgesTest::manyPutsTheRowBack);
        EDGES.sentence("2", "There are MANY GRAVES", GravesEdgesTest::asManyAsThereWere);
        EDGES.sentence("2", "OUTSIDE.", GravesEdgesTest::manyOutside);
        EDGES.sentence("3", "how many SORTS it HAS", GravesEdgesTest::howManySortsItHas);
        EDGES.sentence("3", "UNKNOWN: both", GravesEdgesTest::findUnknown);
        EDGES.sentence("3", "OUTSIDE.", GravesEdgesTest::findOutside);
        EDGES.sentence("3", "UNKNOWN: both; OUTSIDE.", GravesEdgesTest::findUnknownFirst);
    }

    private static void lastFour() {
        EDGES.sentence("4", "how many of these there are", GravesEdgesTest::howManyPairs);
        EDGES.sentence("4", "or not (0)", GravesEdgesTest::pairsGoToNone);
        EDGES.sentence("4", "UNKNOWN: both", GravesEdgesTest::aheadUnknown);
        EDGES.sentence("4", "OUTSIDE: on, they are one.", GravesEdgesTest::aheadOutside);
        EDGES.sentence("4", "UNKNOWN: both; OUTSIDE: on, they are one.", GravesEdgesTest::aheadUnknownFirst);
        EDGES.sentence("5", "the set of its SORTS (what = 0)", GravesEdgesTest::theSetOfItsSorts);
        EDGES.sentence("5", "the set of GRAVES that it is KNOWN to be ahead of (1)",
            GravesEdgesTest::thoseThatItIsAheadOf);
        EDGES.sentence("5", "the set of those KNOWN to be ahead of it (2)", GravesEdgesTest::thoseAheadOfIt);
        EDGES.sentence("5", "the place of it in THE ROW (3)", GravesEdgesTest::thePlaceOfIt);
        EDGES.sentence("5", "UNKNOWN;", GravesEdgesTest::graveUnknown);
        EDGES.sentence("5", "OUTSIDE.", GravesEdgesTest::graveOutside);
        EDGES.sentence("6", "how many GRAVES HAVE it (what = 0)", GravesEdgesTest::howManyGravesHaveIt);
        EDGES.sentence("6", "its BREAKS in THE ROW (1)", GravesEdgesTest::breaksOfASortInTheRow);
        EDGES.sentence("6", "the fewest BREAKS that it has in any BEST ORDER",
            GravesEdgesTest::fewestBreaksOfASort);
        EDGES.sentence("6", "NONE: there is none", GravesEdgesTest::noneForASort);
        EDGES.sentence("6", "UNKNOWN;", GravesEdgesTest::sortUnknown);
        EDGES.sentence("6", "OUTSIDE.", GravesEdgesTest::sortOutside);
        EDGES.sentence("7", "How many SORTS two GRAVES (or one) HAVE, both.",
            GravesEdgesTest::alikeNoneAndAll);
        EDGES.sentence("7", "UNKNOWN: both.", GravesEdgesTest::alikeUnknown);
    }

    public static void main(String[] args) {
        firstThree();
        lastFour();
        EDGES.end("GravesEdgesTest");
    }
}

/** Each refusal of each call, which comes first where two fit, and that nothing changes by it. */
public final class RefusalsTest {
    private static final int UNKNOWN = GraveRows.UNKNOWN, OUTSIDE = GraveRows.OUTSIDE;
    private static final int STATE = GraveRows.STATE, NONE = GraveRows.NONE;
    private static final int[] NO_GRAVES = {-1, 4, 8, 31, 32, Integer.MIN_VALUE, Integer.MAX_VALUE};
    private static final int[] NO_SORTS = {-1, 10, 32, Integer.MIN_VALUE, Integer.MAX_VALUE};
    private static final int[] NEITHER = {-1, 2, Integer.MIN_VALUE, Integer.MAX_VALUE};
    private static final Check CHECK = new Check();

    private static GraveRows some() {
        GraveRows x = Calls.graves(1, 2, 1, 6);
        x.ahead(3, 0, 1);
        x.swap(1);
        x.image(1);
        return x;
    }

    /** Four graves, each of two ahead of the other: there is no best order. */
    private static GraveRows without() {
        GraveRows x = some();
        x.ahead(0, 3, 1);
        return x;
    }

    private static void manyFindAhead(GraveRows x) {
        int[] sizes = {0, 9, -1, -4, Integer.MIN_VALUE, Integer.MAX_VALUE};
        for (int n : sizes) {
            CHECK.due("2 many(" + n + ")", x.many(n), OUTSIDE);
        }
        for (int g : NO_GRAVES) {
            CHECK.due("3 grave " + g, x.find(g, 0, 1), UNKNOWN);
            CHECK.due("3 grave first " + g, x.find(g, 0, 2), UNKNOWN);
            CHECK.due("4 one " + g, x.ahead(g, 0, 1), UNKNOWN);
            CHECK.due("4 other " + g, x.ahead(0, g, 1), UNKNOWN);
            CHECK.due("4 unknown first " + g, x.ahead(g, g, 2), UNKNOWN);
        }
        for (int s : NO_SORTS) {
            CHECK.due("3 sort " + s, x.find(0, s, 1), UNKNOWN);
            CHECK.due("3 sort first " + s, x.find(0, s, 2), UNKNOWN);
        }
        for (int on : NEITHER) {
            CHECK.due("3 on " + on, x.find(0, 1, on), OUTSIDE);
            CHECK.due("4 on " + on, x.ahead(0, 1, on), OUTSIDE);
        }
        CHECK.due("4 they are one", x.ahead(2, 2, 1), OUTSIDE);
        CHECK.due("4 they are one, off", x.ahead(2, 2, 0), OUTSIDE);
    }

    private static void graveSortAlike(GraveRows x) {
        int[] noWhat = {-1, 4, Integer.MIN_VALUE, Integer.MAX_VALUE};
        for (int g : NO_GRAVES) {
            CHECK.due("5 grave " + g, x.grave(g, 0), UNKNOWN);
            CHECK.due("5 grave first " + g, x.grave(g, 4), UNKNOWN);
            CHECK.due("7 one " + g, x.alike(g, 0), UNKNOWN);
            CHECK.due("7 other " + g, x.alike(0, g), UNKNOWN);
        }
        for (int s : NO_SORTS) {
            CHECK.due("6 sort " + s, x.sort(s, 2), UNKNOWN);
            CHECK.due("6 sort first " + s, x.sort(s, 3), UNKNOWN);
        }
        for (int what : noWhat) {
            CHECK.due("5 what " + what, x.grave(0, what), OUTSIDE);
            CHECK.due("6 what " + what, x.sort(0, what), OUTSIDE);
        }
        CHECK.due("6 what 3", x.sort(0, 3), OUTSIDE);
    }

    private static void ofBestOrders(GraveRows x) {
        for (int p : NO_GRAVES) {
            CHECK.due("10 place " + p, x.order(0, p), OUTSIDE);
            CHECK.due("10 place before NONE " + p, x.order(100000, p), OUTSIDE);
            CHECK.due("11 grave " + p, x.beside(p, 0), UNKNOWN);
            CHECK.due("11 grave first " + p, x.beside(p, 2), UNKNOWN);
            CHECK.due("12 grave " + p, x.place(p, 0), UNKNOWN);
            CHECK.due("12 grave first " + p, x.place(p, 2), UNKNOWN);
            CHECK.due("13 one " + p, x.before(p, 0), UNKNOWN);
            CHECK.due("13 other " + p, x.before(0, p), UNKNOWN);
            CHECK.due("13 unknown first " + p, x.before(p, p), UNKNOWN);
        }
        CHECK.due("10 i", x.order(-1, 0), OUTSIDE);
        CHECK.due("10 i", x.order(Integer.MIN_VALUE, 0), OUTSIDE);
        for (int what : NEITHER) {
            CHECK.due("11 what " + what, x.beside(0, what), OUTSIDE);
        }
        int[] noPlaces = {-1, 2, 9, 14, 18, -10, Integer.MIN_VALUE, Integer.MIN_VALUE + 12, Integer.MAX_VALUE};
        for (int what : noPlaces) {
            CHECK.due("12 what " + what, x.place(0, what), OUTSIDE);
        }
        CHECK.due("13 they are one", x.before(1, 1), OUTSIDE);
        int[] noSets = {0, 16, 17, 32, -1, Integer.MIN_VALUE, Integer.MAX_VALUE};
        for (int set : noSets) {
            CHECK.due("14 set " + set, x.together(set), OUTSIDE);
        }
        CHECK.due("15 i", x.clump(-2), OUTSIDE);
        CHECK.due("15 i", x.clump(Integer.MIN_VALUE), OUTSIDE);
    }

    private static void ofTheRow(GraveRows x) {
        for (int p : NO_GRAVES) {
            CHECK.due("16 place " + p, x.row(p), OUTSIDE);
            if (p != -1) {
                CHECK.due("21 place " + p, x.nearest(p), OUTSIDE);
            }
        }
        CHECK.due("21 place -2", x.nearest(-2), OUTSIDE);
        int[] noBreaks = {-1, 3, Integer.MIN_VALUE, Integer.MAX_VALUE};
        for (int what : noBreaks) {
            CHECK.due("17 what " + what, x.breaks(what), OUTSIDE);
        }
        int[] noSwaps = {-1, 3, 4, 7, Integer.MIN_VALUE, Integer.MAX_VALUE};
        for (int k : noSwaps) {
            CHECK.due("18 k " + k, x.swap(k), OUTSIDE);
        }
        int[] noCounts = {-1, 4, Integer.MIN_VALUE, Integer.MAX_VALUE};
        for (int what : noCounts) {
            CHECK.due("23 what " + what, x.count(what), OUTSIDE);
        }
    }

    private static void ofImages(GraveRows x) {
        for (int k : NEITHER) {
            CHECK.due("24 k " + k, x.image(k), OUTSIDE);
            CHECK.due("25 k " + k, x.restore(k), OUTSIDE);
        }
        CHECK.due("25 nothing kept", x.restore(0), STATE);
    }

    private static void changeNothing(String when, GraveRows x) {
        String before = Calls.seen(x);
        int best = x.best();
        int steps = x.nearest(-1);
        manyFindAhead(x);
        CHECK.holds("2 to 4 change nothing, " + when, Calls.seen(x).equals(before));
        graveSortAlike(x);
        ofBestOrders(x);
        ofTheRow(x);
        ofImages(x);
        CHECK.holds("5 to 25 change nothing, " + when, Calls.seen(x).equals(before));
        CHECK.due("best orders stay, " + when, x.best(), best);
        CHECK.due("the nearest stays, " + when, x.nearest(-1), steps);
    }

    private static void settleWithoutBest() {
        GraveRows x = without();
        String before = Calls.seen(x);
        CHECK.due("22 there is none", x.settle(), STATE);
        CHECK.holds("22 changes nothing", Calls.seen(x).equals(before));
        CHECK.due("21 none, a place", x.nearest(3), NONE);
        CHECK.due("21 outside before none", x.nearest(4), OUTSIDE);
    }

    private static void limitsMoveWithMany() {
        GraveRows x = new GraveRows();
        x.many(8);
        CHECK.due("3 grave 7", x.find(7, 9, 1), 1);
        CHECK.due("3 grave 8", x.find(8, 9, 1), UNKNOWN);
        CHECK.due("12 place 7", x.place(7, 17), 5040);
        CHECK.due("12 place 8", x.place(7, 18), OUTSIDE);
        CHECK.due("14 all", x.together(255), 40320);
        CHECK.due("14 more", x.together(256), OUTSIDE);
        CHECK.due("18 last", x.swap(6), 0);
        CHECK.due("18 beyond", x.swap(7), OUTSIDE);
        x.many(1);
        CHECK.due("3 grave 1", x.find(1, 0, 1), UNKNOWN);
        CHECK.due("12 place 0", x.place(0, 10), 1);
        CHECK.due("12 place 1", x.place(0, 11), OUTSIDE);
        CHECK.due("14 more", x.together(2), OUTSIDE);
        CHECK.due("18 no neighbours", x.swap(0), OUTSIDE);
        CHECK.due("21 place 0", x.nearest(0), 0);
        CHECK.due("21 place 1", x.nearest(1), OUTSIDE);
    }

    public static void main(String[] args) {
        changeNothing("with best orders", some());
        changeNothing("without", without());
        settleWithoutBest();
        limitsMoveWithMany();
        CHECK.due("UNKNOWN", GraveRows.UNKNOWN, -1);
        CHECK.due("OUTSIDE", GraveRows.OUTSIDE, -2);
        CHECK.due("STATE", GraveRows.STATE, -3);
        CHECK.due("NO", GraveRows.NO, -5);
        CHECK.due("NONE", GraveRows.NONE, -6);
        CHECK.end("RefusalsTest");
    }
}

/** Promises 1 to 7: a new object, many, find, ahead, grave, sort, alike. */
public final class GravesTest {
    private static final Check CHECK = new Check();

    private static void aNewObject() {
        GraveRows x = new GraveRows();
        CHECK.due("1 count(0)", x.count(0), 4);
        CHECK.due("1 count(1)", x.count(1), 0);
        CHECK.due("1 count(2)", x.count(2), 0);
        CHECK.due("1 count(3)", x.count(3), 0);
        for (int g = 0; g < 4; g++) {
            CHECK.due("1 sorts", x.grave(g, 0), 0);
            CHECK.due("1 ahead of", x.grave(g, 1), 0);
            CHECK.due("1 behind", x.grave(g, 2), 0);
            CHECK.due("1 place", x.grave(g, 3), g);
            CHECK.due("1 row", x.row(g), g);
        }
        CHECK.due("1 restore(0)", x.restore(0), GraveRows.STATE);
        CHECK.due("1 restore(1)", x.restore(1), GraveRows.STATE);
        new GraveRows().find(0, 0, 1);
        CHECK.due("1 objects are apart", x.count(1), 0);
    }

    private static void manyGraves() {
        GraveRows x = new GraveRows();
        CHECK.due("2 many(8)", x.many(8), 4);
        CHECK.due("2 many(1)", x.many(1), 8);
        CHECK.due("2 many(1) again", x.many(1), 1);
        CHECK.due("2 many(4)", x.many(4), 1);
        CHECK.due("2 count(0)", x.count(0), 4);
    }

    private static void manyForgetsThoseThatGo() {
        GraveRows x = Calls.graves(1, 3, 7, 15, 31);
        x.ahead(0, 1, 1);
        x.ahead(0, 4, 1);
        x.ahead(4, 1, 1);
        x.ahead(3, 4, 1);
        CHECK.due("2 pairs", x.count(2), 4);
        CHECK.due("2 many(3)", x.many(3), 5);
        CHECK.due("2 those that stay HAVE what they had", x.grave(2, 0), 7);
        CHECK.due("2 finds of those that stay", x.count(1), 6);
        CHECK.due("2 KNOWN of those that stay", x.grave(0, 1), 2);
        CHECK.due("2 pairs of those that stay", x.count(2), 1);
        x.many(5);
        CHECK.due("2 those that come HAVE nothing", x.grave(4, 0), 0);
        CHECK.due("2 finds", x.count(1), 6);
        CHECK.due("2 nothing is KNOWN of them", x.grave(4, 1) + x.grave(4, 2) + x.grave(3, 1), 0);
        CHECK.due("2 pairs", x.count(2), 1);
    }

    private static void manyPutsTheRowBack() {
        GraveRows x = new GraveRows();
        x.swap(0);
        x.swap(2);
        CHECK.due("2 many(4)", x.many(4), 4);
        for (int p = 0; p < 4; p++) {
            CHECK.due("2 row", x.row(p), p);
        }
        x.swap(0);
        x.many(8);
        CHECK.holds("2 row of eight", Calls.rowOf(x).equals("01234567"));
    }

    private static void finds() {
        GraveRows x = new GraveRows();
        CHECK.due("3 first", x.find(3, 0, 1), 1);
        CHECK.due("3 second", x.find(3, 9, 1), 2);
        CHECK.due("3 the same again", x.find(3, 9, 1), 2);
        CHECK.due("3 set", x.grave(3, 0), 1 + 512);
        CHECK.due("3 another grave", x.find(0, 9, 1), 1);
        CHECK.due("3 off", x.find(3, 0, 0), 1);
        CHECK.due("3 off that was off", x.find(3, 0, 0), 1);
        CHECK.due("3 set then", x.grave(3, 0), 512);
        CHECK.due("3 the row is as it was", x.row(0), 0);
        for (int s = 0; s < 10; s++) {
            CHECK.due("3 one more", x.find(1, s, 1), s + 1);
        }
    }

    private static void findsKeepTheRow() {
        GraveRows x = new GraveRows();
        x.swap(1);
        x.find(0, 0, 1);
        x.ahead(0, 1, 1);
        CHECK.holds("3, 4 the row stays", Calls.rowOf(x).equals("0213"));
    }

    private static void aheads() {
        GraveRows x = new GraveRows();
        CHECK.due("4 first", x.ahead(0, 1, 1), 1);
        CHECK.due("4 again", x.ahead(0, 1, 1), 1);
        CHECK.due("4 the other way", x.ahead(1, 0, 1), 2);
        CHECK.due("4 third", x.ahead(3, 1, 1), 3);
        CHECK.due("4 ahead of", x.grave(3, 1), 2);
        CHECK.due("4 behind", x.grave(1, 2), 1 + 8);
        CHECK.due("4 off", x.ahead(0, 1, 0), 2);
        CHECK.due("4 off that was off", x.ahead(0, 1, 0), 2);
        CHECK.due("4 behind then", x.grave(1, 2), 8);
        CHECK.due("4 what follows from two is not KNOWN", x.grave(3, 1), 2);
    }

    private static void graveTells() {
        GraveRows x = Calls.graves(0, 5, 0, 1023);
        x.ahead(1, 0, 1);
        x.ahead(1, 3, 1);
        x.ahead(2, 1, 1);
        x.swap(0);
        CHECK.due("5 sorts", x.grave(1, 0), 5);
        CHECK.due("5 all sorts", x.grave(3, 0), 1023);
        CHECK.due("5 ahead of", x.grave(1, 1), 1 + 8);
        CHECK.due("5 behind", x.grave(1, 2), 4);
        CHECK.due("5 place", x.grave(1, 3), 0);
        CHECK.due("5 place of the other", x.grave(0, 3), 1);
    }

    private static void sortTells() {
        GraveRows x = Calls.graves(1, 2, 1, 2, 1);
        CHECK.due("6 graves", x.sort(0, 0), 3);
        CHECK.due("6 graves", x.sort(1, 0), 2);
        CHECK.due("6 no grave", x.sort(9, 0), 0);
        CHECK.due("6 breaks in the row", x.sort(0, 1), 2);
        CHECK.due("6 breaks in the row", x.sort(1, 1), 1);
        CHECK.due("6 no run has no breaks", x.sort(9, 1), 0);
        CHECK.due("6 fewest", x.sort(0, 2), 0);
        CHECK.due("6 fewest of none", x.sort(9, 2), 0);
        x.find(0, 5, 1);
        CHECK.due("6 breaks of one grave's sort", x.sort(5, 1), 0);
        CHECK.due("6 fewest of one grave's sort", x.sort(5, 2), 0);
        x.swap(0);
        CHECK.due("6 the row is asked as it is", x.sort(0, 1), 1);
        CHECK.due("6 the row is asked as it is", x.sort(1, 1), 1);
    }

    private static void fewestOfASort() {
        GraveRows x = Calls.graves(1, 0, 1);
        x.ahead(0, 1, 1);
        x.ahead(1, 2, 1);
        CHECK.due("6 a break that must be", x.sort(0, 2), 1);
        x.ahead(2, 0, 1);
        CHECK.due("6 no best order", x.sort(0, 2), GraveRows.NONE);
        CHECK.due("6 nor of a sort without graves", x.sort(5, 2), GraveRows.NONE);
        // Three sorts go round in a ring: one of them breaks, and each can be spared.
        GraveRows ring = Calls.graves(1 + 4, 1 + 2, 2 + 4);
        CHECK.due("6 ring", ring.least(), 1);
        for (int s = 0; s < 3; s++) {
            CHECK.due("6 fewest in any best order", ring.sort(s, 2), 0);
        }
        // Sort 1 weighs more than sort 0 by its double, sort 2: sort 0 breaks in all best orders.
        GraveRows doubled = Calls.graves(1, 2 + 4, 1 + 2 + 4, 2 + 4);
        doubled.ahead(0, 1, 1);
        doubled.ahead(1, 2, 1);
        CHECK.due("6 doubled", doubled.least(), 1);
        CHECK.due("6 doubled, sort 0", doubled.sort(0, 2), 1);
        CHECK.due("6 doubled, sort 1", doubled.sort(1, 2), 0);
    }

    private static void alikes() {
        GraveRows x = Calls.graves(7, 14, 1023, 0);
        CHECK.due("7 two", x.alike(0, 1), 2);
        CHECK.due("7 the other way", x.alike(1, 0), 2);
        CHECK.due("7 with all", x.alike(1, 2), 3);
        CHECK.due("7 one", x.alike(2, 2), 10);
        CHECK.due("7 none", x.alike(3, 2), 0);
        CHECK.due("7 none, one", x.alike(3, 3), 0);
    }

    public static void main(String[] args) {
        aNewObject();
        manyGraves();
        manyForgetsThoseThatGo();
        manyPutsTheRowBack();
        finds();
        findsKeepTheRow();
        aheads();
        graveTells();
        sortTells();
        fewestOfASort();
        alikes();
        CHECK.end("GravesTest");
    }
}

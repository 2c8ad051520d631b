/** Promises 8 to 15: least, best, order, beside, place, before, together, clump. */
public final class BestOrdersTest {
    private static final int NONE = GraveRows.NONE;
    private static final Check CHECK = new Check();

    /** Graves 0 and 2 have a sort, 1 has nothing: best are 021, 102, 120, 201. */
    private static GraveRows three() {
        return Calls.graves(1, 0, 1);
    }

    /** Each of three graves is ahead of the next: no order is allowed. */
    private static GraveRows noneAllowed() {
        GraveRows x = three();
        x.ahead(0, 1, 1);
        x.ahead(1, 2, 1);
        x.ahead(2, 0, 1);
        return x;
    }

    private static void leastBreaks() {
        CHECK.due("8 nothing found", new GraveRows().least(), 0);
        CHECK.due("8 three", three().least(), 0);
        CHECK.due("8 ring", Calls.graves(5, 3, 6).least(), 1);
        CHECK.due("8 none", noneAllowed().least(), NONE);
        GraveRows x = three();
        x.ahead(0, 1, 1);
        x.ahead(1, 2, 1);
        CHECK.due("8 what is known comes first", x.least(), 1);
        x.ahead(1, 2, 0);
        CHECK.due("8 no more known", x.least(), 0);
        GraveRows all = Calls.graves(1023, 0, 1023, 0, 1023, 0, 1023, 0);
        for (int g = 0; g < 7; g++) {
            all.ahead(g, g + 1, 1);
        }
        CHECK.due("8 the most that can be", all.least(), 30);
        CHECK.due("8 one order", all.best(), 1);
        CHECK.due("8 each sort", all.sort(9, 2), 3);
    }

    private static void howMany() {
        int orders = 1;
        for (int n = 1; n <= 8; n++) {
            orders *= n;
            GraveRows x = new GraveRows();
            x.many(n);
            CHECK.due("9 all orders of " + n, x.best(), orders);
        }
        CHECK.due("9 three", three().best(), 4);
        CHECK.due("9 none", noneAllowed().best(), 0);
        GraveRows both = new GraveRows();
        both.ahead(0, 1, 1);
        CHECK.due("9 half", both.best(), 12);
        both.ahead(1, 0, 1);
        CHECK.due("9 each ahead of the other", both.best(), 0);
        both.ahead(0, 1, 0);
        CHECK.due("9 one way again", both.best(), 12);
    }

    private static void bestIsOfTheAllowed() {
        GraveRows x = three();
        x.ahead(0, 1, 1);
        CHECK.due("9 allowed and best", x.best(), 2);
        CHECK.holds("10 first", Calls.bestOrder(x, 0).equals("021"));
        CHECK.holds("10 second", Calls.bestOrder(x, 1).equals("201"));
    }

    private static void orders() {
        String[] due = {"021", "102", "120", "201"};
        GraveRows x = three();
        for (int i = 0; i < due.length; i++) {
            CHECK.holds("10 order " + i, Calls.bestOrder(x, i).equals(due[i]));
        }
        CHECK.due("10 too many", x.order(4, 0), NONE);
        CHECK.due("10 too many", x.order(Integer.MAX_VALUE, 2), NONE);
        CHECK.due("10 none", noneAllowed().order(0, 0), NONE);
        GraveRows eight = new GraveRows();
        eight.many(8);
        CHECK.holds("10 first of eight", Calls.bestOrder(eight, 0).equals("01234567"));
        CHECK.holds("10 second of eight", Calls.bestOrder(eight, 1).equals("01234576"));
        CHECK.holds("10 5040th of eight", Calls.bestOrder(eight, 5040).equals("10234567"));
        CHECK.holds("10 last of eight", Calls.bestOrder(eight, 40319).equals("76543210"));
        CHECK.due("10 one more", eight.order(40320, 0), NONE);
    }

    private static void neighbours() {
        GraveRows x = three();
        CHECK.due("11 in all", x.beside(0, 0), 4);
        CHECK.due("11 in all", x.beside(2, 0), 1);
        CHECK.due("11 in all", x.beside(1, 0), 0);
        CHECK.due("11 in any", x.beside(0, 1), 2 + 4);
        CHECK.due("11 in any", x.beside(1, 1), 1 + 4);
        CHECK.due("11 none, in all", noneAllowed().beside(0, 0), 0);
        CHECK.due("11 none, in any", noneAllowed().beside(0, 1), 0);
        GraveRows apart = Calls.graves(1, 3, 2);
        CHECK.due("11 never beside, in any", apart.beside(0, 1), 2);
        CHECK.due("11 on both sides, in all", apart.beside(1, 0), 1 + 4);
        GraveRows one = new GraveRows();
        one.many(1);
        CHECK.due("11 alone", one.beside(0, 0), 0);
        CHECK.due("11 alone", one.beside(0, 1), 0);
    }

    private static void places() {
        GraveRows x = three();
        CHECK.due("12 least", x.place(0, 0), 0);
        CHECK.due("12 greatest", x.place(0, 1), 2);
        CHECK.due("12 at 0", x.place(0, 10), 1);
        CHECK.due("12 at 1", x.place(0, 11), 2);
        CHECK.due("12 at 2", x.place(0, 12), 1);
        CHECK.due("12 never", x.place(1, 11), 0);
        x.ahead(0, 1, 1);
        CHECK.due("12 least of 1", x.place(1, 0), 2);
        CHECK.due("12 greatest of 0", x.place(0, 1), 1);
        x.ahead(0, 2, 1);
        CHECK.due("12 always first, least", x.place(0, 0), 0);
        CHECK.due("12 always first, greatest", x.place(0, 1), 0);
        GraveRows none = noneAllowed();
        CHECK.due("12 none, least", none.place(0, 0), NONE);
        CHECK.due("12 none, greatest", none.place(0, 1), NONE);
        CHECK.due("12 none, at 1", none.place(0, 11), 0);
        GraveRows eight = new GraveRows();
        eight.many(8);
        CHECK.due("12 last place of eight", eight.place(7, 17), 5040);
    }

    private static void befores() {
        GraveRows x = three();
        CHECK.due("13 0 before 1", x.before(0, 1), 2);
        CHECK.due("13 0 before 2", x.before(0, 2), 2);
        x.ahead(0, 1, 1);
        CHECK.due("13 known", x.before(0, 1), 2);
        CHECK.due("13 never", x.before(1, 0), 0);
        CHECK.due("13 not only neighbours", x.before(2, 1), 2);
        CHECK.due("13 none", noneAllowed().before(0, 1), 0);
    }

    private static void sets() {
        GraveRows x = three();
        CHECK.due("14 with the sort", x.together(5), 4);
        CHECK.due("14 0 and 1", x.together(3), 2);
        CHECK.due("14 one grave", x.together(2), 4);
        CHECK.due("14 all graves", x.together(7), 4);
        CHECK.due("14 none", noneAllowed().together(1), 0);
        CHECK.due("14 none", noneAllowed().together(7), 0);
        GraveRows eight = new GraveRows();
        eight.many(8);
        CHECK.due("14 two of eight", eight.together(129), 10080);
        CHECK.due("14 three of eight", eight.together(7), 4320);
        CHECK.due("14 all of eight", eight.together(255), 40320);
    }

    private static void clumps() {
        GraveRows x = three();
        CHECK.due("15 how many", x.clump(-1), 2);
        CHECK.due("15 first", x.clump(0), 5);
        CHECK.due("15 second", x.clump(1), 7);
        CHECK.due("15 no third", x.clump(2), NONE);
        CHECK.due("15 far too many", x.clump(Integer.MAX_VALUE), NONE);
        x.ahead(0, 2, 1);
        x.ahead(2, 1, 1);
        CHECK.due("15 one order: each stretch", x.clump(-1), 3);
        CHECK.due("15 rising", x.clump(0), 5);
        CHECK.due("15 rising", x.clump(1), 6);
        CHECK.due("15 rising", x.clump(2), 7);
        CHECK.due("15 none, how many", noneAllowed().clump(-1), 0);
        CHECK.due("15 none, first", noneAllowed().clump(0), NONE);
        // After 0 and 1 grave 3 would cost no more than 2 does, but no best order begins with 01.
        GraveRows four = Calls.graves(1, 0, 1, 0);
        CHECK.due("15 four, how many", four.clump(-1), 2);
        CHECK.due("15 four, first", four.clump(0), 5);
        CHECK.due("15 four, second", four.clump(1), 15);
        GraveRows one = new GraveRows();
        one.many(1);
        CHECK.due("15 one grave is no clump", one.clump(-1), 0);
        CHECK.due("15 one grave is no clump", one.clump(0), NONE);
    }

    private static void answersFollowEachChange() {
        GraveRows x = three();
        CHECK.due("8 .. 15 before", x.clump(-1), 2);
        x.find(1, 0, 1);
        CHECK.due("9 after find", x.best(), 6);
        CHECK.due("15 after find", x.clump(-1), 1);
        x.find(1, 0, 0);
        CHECK.due("15 after find again", x.clump(-1), 2);
        x.image(0);
        x.many(2);
        CHECK.due("9 after many", x.best(), 2);
        CHECK.due("15 after many", x.clump(0), 3);
        x.restore(0);
        CHECK.due("9 after restore", x.best(), 4);
        CHECK.due("15 after restore", x.clump(0), 5);
        x.together(3);
        x.sort(0, 2);
        CHECK.due("8 after other questions", x.least(), 0);
    }

    public static void main(String[] args) {
        leastBreaks();
        howMany();
        bestIsOfTheAllowed();
        orders();
        neighbours();
        places();
        befores();
        sets();
        clumps();
        answersFollowEachChange();
        CHECK.end("BestOrdersTest");
    }
}

/** Objects made ready: nothing there, all there, and what lies between. */
enum Ready {
    NEW, ONE, TWO, EIGHT, SOME, NONE_ALLOWED, ONLY_ONE_BEST, ALL;

    GraveRows make() {
        switch (this) {
            case NEW: return new GraveRows();
            case ONE: return one();
            case TWO: return two();
            case EIGHT: return eight();
            case SOME: return some();
            case NONE_ALLOWED: return noneAllowed();
            case ONLY_ONE_BEST: return onlyOneBest();
            default: return all();
        }
    }

    int graves() {
        return make().count(0);
    }

    private static GraveRows one() {
        GraveRows x = Calls.graves(1023);
        x.image(0);
        return x;
    }

    private static GraveRows two() {
        GraveRows x = Calls.graves(1, 3);
        x.swap(0);
        return x;
    }

    private static GraveRows eight() {
        GraveRows x = new GraveRows();
        x.many(8);
        return x;
    }

    /** What is kept is another thing than what is there. */
    private static GraveRows some() {
        GraveRows x = Calls.graves(1, 2, 1, 6);
        x.ahead(3, 0, 1);
        x.image(1);
        x.swap(1);
        x.find(1, 9, 1);
        return x;
    }

    private static GraveRows noneAllowed() {
        GraveRows x = some();
        x.ahead(0, 3, 1);
        x.image(0);
        x.swap(2);
        return x;
    }

    /** 0, 1, 2 .. 7 alone is allowed, and has as many breaks as there can be. */
    private static GraveRows onlyOneBest() {
        GraveRows x = Calls.graves(1023, 0, 1023, 0, 1023, 0, 1023, 0);
        for (int g = 0; g < 7; g++) {
            x.ahead(g, g + 1, 1);
        }
        x.swap(6);
        return x;
    }

    private static GraveRows all() {
        GraveRows x = Calls.graves(1023, 1023, 1023, 1023, 1023, 1023, 1023, 1023);
        x.image(1);
        for (int pair = 0; pair < 64; pair++) {
            if (pair / 8 != pair % 8) {
                x.ahead(pair / 8, pair % 8, 1);
            }
        }
        Calls.turnRound(x);
        x.image(0);
        return x;
    }
}

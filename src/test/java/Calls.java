/** What tests share: objects made ready, and all that can be seen of one. */
final class Calls {
    private Calls() {
    }

    /** Graves 0 .. with the sorts that the sets tell. */
    static GraveRows graves(int... sets) {
        GraveRows x = new GraveRows();
        x.many(sets.length);
        for (int g = 0; g < sets.length; g++) {
            for (int s = 0; s < 10; s++) {
                if ((sets[g] >> s & 1) != 0) {
                    x.find(g, s, 1);
                }
            }
        }
        return x;
    }

    /** The state, in one text: at most 53 calls. */
    static String seen(GraveRows x) {
        StringBuilder text = new StringBuilder();
        for (int what = 0; what < 4; what++) {
            text.append(x.count(what)).append(' ');
        }
        for (int g = 0; g < x.count(0); g++) {
            text.append("| ").append(x.row(g)).append(' ');
            for (int what = 0; what < 4; what++) {
                text.append(x.grave(g, what)).append(' ');
            }
        }
        return text.toString();
    }

    static String bestOrder(GraveRows x, int i) {
        StringBuilder text = new StringBuilder();
        for (int p = 0; p < x.count(0); p++) {
            text.append(x.order(i, p));
        }
        return text.toString();
    }

    static String rowOf(GraveRows x) {
        StringBuilder text = new StringBuilder();
        for (int p = 0; p < x.count(0); p++) {
            text.append(x.row(p));
        }
        return text.toString();
    }

    static void turnRound(GraveRows x) {
        for (int end = x.count(0) - 1; end > 0; end--) {
            for (int k = 0; k < end; k++) {
                x.swap(k);
            }
        }
    }

    /** What follows from the state: at most 43 calls. */
    static String bestSeen(GraveRows x) {
        StringBuilder text = new StringBuilder();
        text.append(x.least()).append(' ').append(x.best()).append(' ').append(bestOrder(x, 0));
        text.append(" clumps ").append(x.clump(-1)).append(' ').append(x.clump(0)).append(" breaks ");
        for (int what = 0; what < 3; what++) {
            text.append(x.breaks(what)).append(' ');
        }
        text.append("nearest ");
        for (int place = -1; place < x.count(0); place++) {
            text.append(x.nearest(place)).append(' ');
        }
        return text.toString();
    }

    /** All that can be seen, images too: at most 204 calls, and the last of them change the state. */
    static String whole(GraveRows x) {
        StringBuilder text = new StringBuilder(seen(x));
        text.append(bestSeen(x));
        for (int k = 0; k < 2; k++) {
            text.append("| image ").append(x.restore(k)).append(' ').append(seen(x));
        }
        return text.toString();
    }
}

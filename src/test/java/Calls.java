/** What tests share: objects made ready, and all that can be seen of one. */
final class Calls {
    private Calls() {
    }

    /** Graves 0 .. with the sorts that the sets tell. */
    static GraveRows graves(int... sets) {
        GraveRows x = new GraveRows();
        x.many(sets.length);
        for (int g = 0; g < sets.length; g++) {
            for (int s = 0; s < 10; s++) {
                if ((sets[g] >> s & 1) != 0) {
                    x.find(g, s, 1);
                }
            }
        }
        return x;
    }

    /** The state, in one text: at most 44 calls. */
    static String seen(GraveRows x) {
        StringBuilder text = new StringBuilder();
        for (int what = 0; what < 4; what++) {
            text.append(x.count(what)).append(' ');
        }
        for (int g = 0; g < x.count(0); g++) {
            text.append("| ").append(x.row(g)).append(' ');
            for (int what = 0; what < 4; what++) {
                text.append(x.grave(g, what)).append(' ');
            }
        }
        return text.toString();
    }

    static String bestOrder(GraveRows x, int i) {
        StringBuilder text = new StringBuilder();
        for (int p = 0; p < x.count(0); p++) {
            text.append(x.order(i, p));
        }
        return text.toString();
    }

    static String rowOf(GraveRows x) {
        StringBuilder text = new StringBuilder();
        for (int p = 0; p < x.count(0); p++) {
            text.append(x.row(p));
        }
        return text.toString();
    }
}

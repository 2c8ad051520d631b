/** The edges of promises 24 and 25, sentence by sentence: image, restore. */
public final class ImagesEdgesTest {
    private static final int OUTSIDE = GraveRows.OUTSIDE, STATE = GraveRows.STATE;
    private static final int[] NO_IMAGES = Edges.outside(0, 1);
    private static final Edges EDGES = new Edges();

    // ---- 24 image

    private static void imageAnswersOne() {
        for (Ready ready : Ready.values()) {
            for (int k = 0; k < 2; k++) {
                GraveRows x = ready.make();
                int kept = x.count(3);
                EDGES.due(ready + " image(" + k + ")", x.image(k), 1);
                EDGES.due(ready + " and again", x.image(k), 1);
                EDGES.due(ready + " count(3)", x.count(3), kept | 1 << k);
            }
        }
    }

    private static void imageChangesNothingElse() {
        for (Ready ready : Ready.values()) {
            GraveRows x = ready.make();
            x.image(0);
            x.image(1);
            EDGES.due(ready + " seen", graveByGrave(x), graveByGrave(ready.make()));
        }
    }

    private static void inPlaceOfWhatWasKept() {
        for (int k = 0; k < 2; k++) {
            GraveRows x = Ready.ALL.make();
            x.many(1);
            x.image(k);
            x.many(8);
            x.restore(k);
            EDGES.due("one grave is kept now", x.count(0), 1);
            EDGES.due("what it has", x.grave(0, 0), 1023);
            x.restore(1 - k);
            EDGES.due("the other image stays", x.count(0), 8);
            EDGES.due("and what is known there", x.count(2), k == 0 ? 0 : 56);
        }
    }

    private static void imageOutside() {
        for (Ready ready : Ready.values()) {
            for (int k : NO_IMAGES) {
                EDGES.refused(ready, "image(" + k + ")", OUTSIDE, x -> x.image(k));
            }
        }
    }

    // ---- 25 restore

    private static String graveByGrave(GraveRows x) {
        StringBuilder text = new StringBuilder();
        for (int g = 0; g < x.count(0); g++) {
            for (int what = 0; what < 4; what++) {
                text.append(x.grave(g, what)).append(' ');
            }
        }
        return text.append(Calls.bestSeen(x)).toString();
    }

    /** All that there is becomes something else. */
    private static void spoil(GraveRows x, int to) {
        x.many(9 - to);
        x.many(to);
        for (int g = 0; g < to; g++) {
            x.find(g, g, 1 - (x.grave(g, 0) >> g & 1));
        }
        x.ahead(0, to - 1, 1 - (x.grave(0, 1) >> to - 1 & 1));
        x.swap(0);
    }

    private static void asTheyWere() {
        for (Ready ready : Ready.values()) {
            for (int k = 0; k < 2; k++) {
                for (int to : new int[] {1, 4, 8}) {
                    GraveRows x = ready.make();
                    String before = graveByGrave(x);
                    x.image(k);
                    spoil(x, to);
                    EDGES.due(ready + " restore(" + k + ")", x.restore(k), 1);
                    EDGES.due(ready + " after " + to, graveByGrave(x), before);
                }
            }
        }
    }

    private static void manyKeepsImages() {
        GraveRows x = Ready.ALL.make();
        x.many(1);
        EDGES.due("count(3)", x.count(3), 3);
        x.restore(0);
        EDGES.due("row", Calls.rowOf(x), "76543210");
        EDGES.due("count(1)", x.count(1), 80);
        EDGES.due("count(2)", x.count(2), 56);
    }

    private static void theImageStays() {
        for (int k = 0; k < 2; k++) {
            GraveRows x = Ready.SOME.make();
            x.image(k);
            String before = Calls.seen(x);
            for (int times = 0; times < 4; times++) {
                spoil(x, 2 + times);
                EDGES.due("restore(" + k + ") once more", x.restore(k), 1);
                EDGES.due("as it was", Calls.seen(x), before);
            }
        }
    }

    private static void restoreTakesNoImageBack() {
        GraveRows x = new GraveRows();
        x.image(0);
        x.find(3, 9, 1);
        x.image(1);
        x.restore(0);
        EDGES.due("the later one is kept", x.count(3), 3);
        EDGES.due("the earlier state", x.count(1), 0);
        x.restore(1);
        EDGES.due("the later state", x.count(1), 1);
    }

    private static void restoreOutside() {
        for (Ready ready : Ready.values()) {
            for (int k : NO_IMAGES) {
                EDGES.refused(ready, "restore(" + k + ")", OUTSIDE, x -> x.restore(k));
            }
        }
    }

    private static void restoreState() {
        for (Ready ready : Ready.values()) {
            int kept = ready.make().count(3);
            for (int k = 0; k < 2; k++) {
                int image = k;
                if ((kept >> k & 1) == 0) {
                    EDGES.refused(ready, "restore(" + k + ")", STATE, x -> x.restore(image));
                }
            }
        }
        GraveRows x = new GraveRows();
        x.image(2);
        x.image(-1);
        EDGES.due("a refused image keeps nothing, 0", x.restore(0), STATE);
        EDGES.due("a refused image keeps nothing, 1", x.restore(1), STATE);
        x.image(0);
        EDGES.due("the other one is still empty", x.restore(1), STATE);
        EDGES.due("this one is not", x.restore(0), 1);
    }

    public static void main(String[] args) {
        EDGES.sentence("24", "are kept in an IMAGE (0, 1)", ImagesEdgesTest::imageAnswersOne);
        EDGES.sentence("24", "GRAVES, what they HAVE, what is KNOWN, THE ROW are kept",
            ImagesEdgesTest::imageChangesNothingElse);
        EDGES.sentence("24", "in place of what was kept there", ImagesEdgesTest::inPlaceOfWhatWasKept);
        EDGES.sentence("24", "OUTSIDE.", ImagesEdgesTest::imageOutside);
        EDGES.sentence("25", "They are as they were when they were kept", ImagesEdgesTest::asTheyWere);
        EDGES.sentence("25", "They are as they were when they were kept", ImagesEdgesTest::manyKeepsImages);
        EDGES.sentence("25", "the IMAGE stays: 1.", ImagesEdgesTest::theImageStays);
        EDGES.sentence("25", "the IMAGE stays: 1.", ImagesEdgesTest::restoreTakesNoImageBack);
        EDGES.sentence("25", "OUTSIDE;", ImagesEdgesTest::restoreOutside);
        EDGES.sentence("25", "STATE: nothing was kept in it.", ImagesEdgesTest::restoreState);
        EDGES.end("ImagesEdgesTest");
    }
}

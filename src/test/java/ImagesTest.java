/** Promises 24 and 25: image, restore. */
public final class ImagesTest {
    private static final Check CHECK = new Check();

    private static GraveRows some() {
        GraveRows x = Calls.graves(1, 0, 1, 6, 0, 6);
        x.ahead(4, 3, 1);
        x.ahead(5, 0, 1);
        x.swap(2);
        return x;
    }

    private static void allComesBack() {
        GraveRows x = some();
        CHECK.due("24 image(0)", x.image(0), 1);
        String before = Calls.seen(x);
        int least = x.least();
        int steps = x.nearest(-1);
        x.find(0, 0, 0);
        x.ahead(4, 3, 0);
        x.swap(0);
        x.many(2);
        x.nearest(-1);
        CHECK.due("25 restore(0)", x.restore(0), 1);
        CHECK.holds("25 as it was", Calls.seen(x).equals(before));
        CHECK.due("25 least", x.least(), least);
        CHECK.due("25 nearest", x.nearest(-1), steps);
    }

    private static void theImageStays() {
        GraveRows x = some();
        x.image(1);
        String before = Calls.seen(x);
        for (int i = 0; i < 3; i++) {
            x.find(i, 7, 1);
            x.ahead(1, i + 2, 1);
            x.swap(i);
            CHECK.due("25 restore(1)", x.restore(1), 1);
            CHECK.holds("25 as it was", Calls.seen(x).equals(before));
        }
        x.many(1);
        CHECK.due("25 restore(1)", x.restore(1), 1);
        CHECK.holds("25 as it was", Calls.seen(x).equals(before));
    }

    private static void twoImages() {
        GraveRows x = new GraveRows();
        CHECK.due("24 image(1)", x.image(1), 1);
        x.many(2);
        x.swap(0);
        CHECK.due("25 nothing in the first", x.restore(0), GraveRows.STATE);
        CHECK.due("24 image(0)", x.image(0), 1);
        CHECK.due("25 the second", x.restore(1), 1);
        CHECK.due("25 four again", x.count(0), 4);
        CHECK.due("25 the first", x.restore(0), 1);
        CHECK.due("25 two again", x.count(0), 2);
        CHECK.due("25 its row", x.row(0), 1);
        CHECK.due("25 both stay", x.count(3), 3);
    }

    private static void inPlaceOfWhatWasKept() {
        GraveRows x = new GraveRows();
        x.image(0);
        x.find(3, 3, 1);
        CHECK.due("24 again", x.image(0), 1);
        x.find(3, 3, 0);
        x.restore(0);
        CHECK.due("24 the later one", x.grave(3, 0), 8);
    }

    private static void restoreKeepsLaterImages() {
        GraveRows x = new GraveRows();
        x.image(0);
        x.image(1);
        x.restore(0);
        CHECK.due("25 images are not taken back", x.count(3), 3);
    }

    private static void objectsHaveTheirOwn() {
        new GraveRows().image(0);
        CHECK.due("25 another object's", new GraveRows().restore(0), GraveRows.STATE);
    }

    public static void main(String[] args) {
        allComesBack();
        theImageStays();
        twoImages();
        inPlaceOfWhatWasKept();
        restoreKeepsLaterImages();
        objectsHaveTheirOwn();
        CHECK.end("ImagesTest");
    }
}

import java.util.Random;

/** Runs of calls by chance, the same each time, on the class and on the model: all promises. */
public final class AgainstModelTest {
    private static final String[] CALLS = {
        "many", "find", "ahead", "grave", "sort", "alike", "least", "best", "order", "beside",
        "place", "before", "together", "clump", "row", "breaks", "swap", "better", "climb",
        "nearest", "settle", "count", "image", "restore"};
    private static final int[] ODD = {
        Integer.MIN_VALUE, Integer.MIN_VALUE + 1, -11, -7, -2, -1, 8, 9, 10, 17, 18, 31, 32, 64,
        255, 256, 257, 40320, Integer.MAX_VALUE - 1, Integer.MAX_VALUE};

    private static int argument(Random chance, int below) {
        if (chance.nextInt(25) == 0) {
            return ODD[chance.nextInt(ODD.length)];
        }
        return chance.nextInt(below);
    }

    private static void callBoth(Check check, String where, GraveRows x, Model m, String call, int[] a) {
        String text = where + call + "(" + a[0] + ", " + a[1] + ", " + a[2] + ")";
        switch (call) {
            case "many": check.due(text, x.many(a[0]), m.many(a[0])); break;
            case "find": check.due(text, x.find(a[0], a[1], a[2]), m.find(a[0], a[1], a[2])); break;
            case "ahead": check.due(text, x.ahead(a[0], a[1], a[2]), m.ahead(a[0], a[1], a[2])); break;
            case "grave": check.due(text, x.grave(a[0], a[1]), m.grave(a[0], a[1])); break;
            case "sort": check.due(text, x.sort(a[0], a[1]), m.sort(a[0], a[1])); break;
            case "alike": check.due(text, x.alike(a[0], a[1]), m.alike(a[0], a[1])); break;
            case "least": check.due(text, x.least(), m.least()); break;
            case "best": check.due(text, x.best(), m.best()); break;
            case "order": check.due(text, x.order(a[0], a[1]), m.order(a[0], a[1])); break;
            case "beside": check.due(text, x.beside(a[0], a[1]), m.beside(a[0], a[1])); break;
            case "place": check.due(text, x.place(a[0], a[1]), m.place(a[0], a[1])); break;
            case "before": check.due(text, x.before(a[0], a[1]), m.before(a[0], a[1])); break;
            case "together": check.due(text, x.together(a[0]), m.together(a[0])); break;
            case "clump": check.due(text, x.clump(a[0]), m.clump(a[0])); break;
            case "row": check.due(text, x.row(a[0]), m.row(a[0])); break;
            case "breaks": check.due(text, x.breaks(a[0]), m.breaks(a[0])); break;
            case "swap": check.due(text, x.swap(a[0]), m.swap(a[0])); break;
            case "better": check.due(text, x.better(), m.better()); break;
            case "climb": check.due(text, x.climb(), m.climb()); break;
            case "nearest": check.due(text, x.nearest(a[0]), m.nearest(a[0])); break;
            case "settle": check.due(text, x.settle(), m.settle()); break;
            case "count": check.due(text, x.count(a[0]), m.count(a[0])); break;
            case "image": check.due(text, x.image(a[0]), m.image(a[0])); break;
            case "restore": check.due(text, x.restore(a[0]), m.restore(a[0])); break;
            default: throw new IllegalArgumentException(call);
        }
    }

    private static int[] arguments(Random chance, String call, Model m) {
        int graves = m.count(0);
        int first = argument(chance, graves + 1);
        int second = argument(chance, graves + 1);
        switch (call) {
            case "many": first = argument(chance, 10); break;
            case "find": second = argument(chance, 10); break;
            case "grave": second = argument(chance, 4); break;
            case "sort": first = argument(chance, 10); second = argument(chance, 3); break;
            case "order": first = argument(chance, m.best() + 1); break;
            case "beside": second = argument(chance, 2); break;
            case "place": second = chance.nextInt(3) == 0 ? argument(chance, 3) : 10 + second; break;
            case "together": first = argument(chance, 1 << graves); break;
            case "clump": first = argument(chance, 9) - 1; break;
            case "breaks": first = argument(chance, 3); break;
            case "nearest": first = first - 1; break;
            case "count": first = argument(chance, 4); break;
            case "image": first = argument(chance, 2); break;
            case "restore": first = argument(chance, 2); break;
            default: break;
        }
        return new int[] {first, second, argument(chance, 2)};
    }

    private static void fill(Check check, String where, Random chance, GraveRows x, Model m, int finds) {
        for (int i = 0; i < finds; i++) {
            int[] a = {chance.nextInt(m.count(0)), chance.nextInt(10), 1};
            callBoth(check, where, x, m, "find", a);
        }
        int pairs = chance.nextInt(4);
        for (int i = 0; i < pairs; i++) {
            int[] a = {chance.nextInt(m.count(0)), chance.nextInt(m.count(0)), 1};
            callBoth(check, where, x, m, "ahead", a);
        }
    }

    private static boolean changesMuch(String call) {
        return call.equals("many") || call.equals("restore") || call.equals("find") || call.equals("ahead");
    }

    private static void run(Check check, int seed, int graves, int calls) {
        Random chance = new Random(seed);
        GraveRows x = new GraveRows();
        Model m = new Model();
        String where = "run " + seed + ": ";
        callBoth(check, where, x, m, "many", new int[] {graves, 0, 0});
        fill(check, where, chance, x, m, chance.nextInt(26));
        for (int i = 0; i < calls; i++) {
            String call = CALLS[chance.nextInt(CALLS.length)];
            if (changesMuch(call) && chance.nextInt(4) != 0) {
                call = "nearest";
            }
            callBoth(check, where, x, m, call, arguments(chance, call, m));
        }
        for (int g = 0; g < 8; g++) {
            for (int what = 0; what < 4; what++) {
                callBoth(check, where, x, m, "grave", new int[] {g, what, 0});
            }
        }
    }

    public static void main(String[] args) {
        Check check = new Check();
        for (int seed = 0; seed < 400; seed++) {
            run(check, seed, 1 + seed % 6, 400);
        }
        for (int seed = 400; seed < 440; seed++) {
            run(check, seed, 7 + seed % 2, 120);
        }
        check.end("AgainstModelTest");
    }
}

import java.util.EnumMap;
import java.util.Map;
import java.util.function.IntPredicate;
import java.util.function.ToIntFunction;

/** Tests of one sentence of the document each; what goes wrong is told with the sentence. */
final class Edges {
    static final int LEAST_INT = Integer.MIN_VALUE, GREATEST_INT = Integer.MAX_VALUE;

    private final Map<Ready, String> untouched = new EnumMap<>(Ready.class);
    private final Check check = new Check();
    private String sentence = "";
    private int sentences = 0;

    void sentence(String promise, String words, Runnable test) {
        sentence = promise + " \"" + words + "\": ";
        sentences++;
        int before = check.looked();
        test.run();
        if (check.looked() == before) {
            check.holds(sentence + "something was tested", false);
        }
    }

    void due(String call, int got, int want) {
        check.due(sentence + call, got, want);
    }

    void due(String call, String got, String want) {
        check.holds(sentence + call + " answered " + got + ", due is " + want, got.equals(want));
    }

    /** Refused at once, and refused when best orders are remembered: nothing may have changed. */
    void refused(Ready ready, String call, int want, ToIntFunction<GraveRows> made) {
        String where = ready + " " + call;
        GraveRows cold = ready.make();
        due(where, made.applyAsInt(cold), want);
        due(where + " changed", Calls.whole(cold), untouchedOf(ready));
        GraveRows warm = ready.make();
        Calls.bestSeen(warm);
        due(where + ", asked later", made.applyAsInt(warm), want);
        due(where + ", asked later, changed", Calls.whole(warm), untouchedOf(ready));
    }

    private String untouchedOf(Ready ready) {
        return untouched.computeIfAbsent(ready, r -> Calls.whole(r.make()));
    }

    /** Numbers just outside, far outside, and such as a shift or a sum would take for others. */
    static int[] outside(int least, int greatest) {
        int[] near = {least - 1, greatest + 1, least - 2, greatest + 2};
        int[] far = {
            -10, 8, 9, 10, 31, 32, 33, 64, 256, -32, -256, 65536, LEAST_INT, LEAST_INT + 1,
            LEAST_INT + 10, GREATEST_INT, GREATEST_INT - 1};
        IntPredicate isOutside = n -> n < least || n > greatest;
        return java.util.stream.IntStream.concat(
            java.util.Arrays.stream(near), java.util.Arrays.stream(far))
            .filter(isOutside).distinct().toArray();
    }

    void end(String name) {
        System.out.println(name + ": " + sentences + " sentences");
        check.end(name);
    }
}

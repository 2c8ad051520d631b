import java.lang.reflect.Method;
import java.lang.reflect.Modifier;
import java.nio.file.Files;
import java.nio.file.Path;
import java.util.Arrays;
import java.util.regex.Matcher;
import java.util.regex.Pattern;

/** What README.md says of the class: its example is run as it stands there. */
public final class ReadmeTest {
    private static final Pattern CALL = Pattern.compile("x\\.(\\w+)\\(([-\\d, ]*)\\);\\s*// (?:(-?\\d+):)?.*");
    private static final int CALLS_OF_THE_EXAMPLE = 7, ANSWERS_OF_THE_EXAMPLE = 4;
    private static final Check CHECK = new Check();

    private static int made(GraveRows x, String call, String numbers) throws ReflectiveOperationException {
        Object[] arguments = numbers.isEmpty() ? new Object[0]
            : Arrays.stream(numbers.split(", ")).map(Integer::valueOf).toArray();
        Class<?>[] kinds = new Class<?>[arguments.length];
        Arrays.fill(kinds, int.class);
        return (Integer) GraveRows.class.getMethod(call, kinds).invoke(x, arguments);
    }

    private static void example(String text) throws ReflectiveOperationException {
        GraveRows x = new GraveRows();
        int calls = 0;
        int answers = 0;
        for (String line : text.split("\n")) {
            Matcher call = CALL.matcher(line);
            if (call.matches()) {
                calls++;
                int got = made(x, call.group(1), call.group(2));
                if (call.group(3) != null) {
                    answers++;
                    CHECK.due("README: " + line, got, Integer.parseInt(call.group(3)));
                }
            }
        }
        CHECK.due("calls of the example", calls, CALLS_OF_THE_EXAMPLE);
        CHECK.due("answers of the example", answers, ANSWERS_OF_THE_EXAMPLE);
    }

    private static void everyCallIsNamed(String text) {
        for (Method method : GraveRows.class.getDeclaredMethods()) {
            if (Modifier.isPublic(method.getModifiers())) {
                String row = "(?s).*\\n\\| [^|]*`" + method.getName() + "`.*";
                CHECK.holds("the table names " + method.getName(), text.matches(row));
            }
        }
    }

    public static void main(String[] args) throws Exception {
        String text = Files.readString(Path.of("README.md"));
        example(text);
        everyCallIsNamed(text);
        CHECK.holds("how to run the tests", text.contains("    .ci/run\n"));
        CHECK.end("ReadmeTest");
    }
}

import java.io.IOException;
import java.lang.reflect.Array;
import java.lang.reflect.Constructor;
import java.lang.reflect.Field;
import java.lang.reflect.Method;
import java.lang.reflect.Modifier;
import java.nio.file.Files;
import java.nio.file.Path;
import java.util.ArrayDeque;
import java.util.ArrayList;
import java.util.Arrays;
import java.util.Collections;
import java.util.IdentityHashMap;
import java.util.List;
import java.util.Set;
import java.util.TreeSet;
import java.util.regex.Matcher;
import java.util.regex.Pattern;

/** The face, what of LANGUAGE.md can be seen from outside, and the room that an object takes. */
public final class RulesTest {
    private static final String SOURCE = "src/main/java/GraveRows.java";
    private static final String FACE = "ahead(3) alike(2) before(2) beside(2) best(0) better(0) breaks(1)"
        + " climb(0) clump(1) count(1) find(3) grave(2) image(1) least(0) many(1) nearest(1) order(2)"
        + " place(2) restore(1) row(1) settle(0) sort(2) swap(1) together(1)";
    private static final String[] BARRED = {
        "throw", "throws", "try", "catch", "synchronized", "assert", "import", "package", "->", "::",
        "Exact", "@", "equals", "hashCode", "toString", "protected", "static \\{"};
    // Of a room of 7.3 million, were each of 512 calls to make an object.
    private static final int MOST_ELEMENTS = 7300000 / 512;
    private static final Set<String> LIBRARY = Set.of("Integer.bitCount", "Math.min", "System.arraycopy");
    private static final Pattern METHOD = Pattern.compile("( {4}| {8})(?!for|if|while|switch)\\w.*\\) \\{");
    private static final Check CHECK = new Check();

    private static void face() {
        Set<String> open = new TreeSet<>();
        Set<String> closed = new TreeSet<>();
        for (Method method : GraveRows.class.getDeclaredMethods()) {
            if (Modifier.isPublic(method.getModifiers())) {
                open.add(method.getName() + "(" + method.getParameterCount() + ")");
                CHECK.holds("int " + method.getName(), method.getReturnType() == int.class);
            } else {
                CHECK.holds("private " + method.getName(), Modifier.isPrivate(method.getModifiers()));
                closed.add(method.getName());
            }
        }
        CHECK.holds("the methods of the face", String.join(" ", open).equals(FACE));
        for (Class<?> inner : GraveRows.class.getDeclaredClasses()) {
            CHECK.holds("static " + inner.getName(), Modifier.isStatic(inner.getModifiers()));
            for (Method method : inner.getDeclaredMethods()) {
                closed.add(method.getName());
            }
        }
        for (String name : closed) {
            CHECK.holds("no other method is called " + name, !FACE.matches("(.* )?" + name + "\\(.*"));
        }
        CHECK.holds("final", Modifier.isFinal(GraveRows.class.getModifiers()));
        Constructor<?>[] makers = GraveRows.class.getDeclaredConstructors();
        CHECK.due("constructors", makers.length, 1);
        CHECK.holds("public constructor", Modifier.isPublic(makers[0].getModifiers()));
    }

    private static void fields() {
        int open = 0;
        for (Field field : GraveRows.class.getDeclaredFields()) {
            int how = field.getModifiers();
            if (Modifier.isPublic(how)) {
                open++;
                CHECK.holds("constant " + field.getName(), Modifier.isStatic(how) && Modifier.isFinal(how));
            } else {
                CHECK.holds("private " + field.getName(), Modifier.isPrivate(how));
            }
        }
        CHECK.due("constants", open, 5);
    }

    private static void words() throws IOException {
        String text = Files.readString(Path.of(SOURCE));
        for (String word : BARRED) {
            boolean plain = word.matches("\\w+");
            Pattern pattern = Pattern.compile(plain ? "\\b" + word + "\\b" : word);
            CHECK.holds("no " + word, !pattern.matcher(text).find());
        }
        CHECK.holds("no sign beyond 127", text.chars().allMatch(c -> c < 128));
    }

    private static void counts() {
        List<Class<?>> classes = new ArrayList<>(Arrays.asList(GraveRows.class.getDeclaredClasses()));
        classes.add(GraveRows.class);
        CHECK.holds("at most twelve classes", classes.size() <= 12);
        for (Class<?> each : classes) {
            int held = 0;
            for (Field field : each.getDeclaredFields()) {
                int how = field.getModifiers();
                CHECK.holds("static is final: " + field, !Modifier.isStatic(how) || Modifier.isFinal(how));
                held += Modifier.isStatic(how) ? 0 : 1;
            }
            CHECK.holds("at most twenty fields in " + each, held <= 20);
            for (Method method : each.getDeclaredMethods()) {
                CHECK.holds("at most seven parameters: " + method, method.getParameterCount() <= 7);
            }
        }
    }

    private static void methodsAreShort() throws IOException {
        List<String> lines = Files.readAllLines(Path.of(SOURCE));
        int methods = 0;
        for (int first = 0; first < lines.size(); first++) {
            Matcher head = METHOD.matcher(lines.get(first));
            if (head.matches()) {
                methods++;
                int last = first;
                while (!lines.get(last).equals(head.group(1) + "}")) {
                    last++;
                }
                CHECK.holds("at most sixty lines: " + lines.get(first), last - first < 60);
            }
        }
        CHECK.holds("methods were found", methods > 24);
    }

    /** Only static functions are called by a name with a capital, and all of them are the library's. */
    private static void library() throws IOException {
        Set<String> used = new TreeSet<>();
        Matcher call = Pattern.compile("\\b([A-Z]\\w*\\.\\w+)\\(").matcher(Files.readString(Path.of(SOURCE)));
        while (call.find()) {
            used.add(call.group(1));
        }
        CHECK.holds("the library: " + used, LIBRARY.containsAll(used));
    }

    private static int room(Object of) throws IllegalAccessException {
        Set<Object> seen = Collections.newSetFromMap(new IdentityHashMap<>());
        ArrayDeque<Object> open = new ArrayDeque<>();
        open.add(of);
        int elements = 0;
        while (!open.isEmpty()) {
            Object x = open.remove();
            if (!seen.add(x)) {
                continue;
            }
            if (x.getClass().isArray()) {
                elements += Array.getLength(x);
                for (int i = 0; x instanceof Object[] && i < Array.getLength(x); i++) {
                    open.add(Array.get(x, i));
                }
                continue;
            }
            for (Field field : x.getClass().getDeclaredFields()) {
                if (!Modifier.isStatic(field.getModifiers())) {
                    elements++;
                    field.setAccessible(true);
                    if (!field.getType().isPrimitive() && field.get(x) != null) {
                        open.add(field.get(x));
                    }
                }
            }
        }
        return elements;
    }

    private static void rooms() throws IllegalAccessException {
        GraveRows x = new GraveRows();
        int first = room(x);
        System.out.println("an object takes " + first + " fields and elements");
        CHECK.holds("room of a new object", first <= MOST_ELEMENTS);
        x.many(8);
        x.best();
        x.clump(-1);
        x.settle();
        x.image(0);
        x.restore(0);
        CHECK.due("room after calls", room(x), first);
    }

    public static void main(String[] args) throws Exception {
        face();
        fields();
        words();
        counts();
        methodsAreShort();
        library();
        rooms();
        CHECK.end("RulesTest");
    }
}

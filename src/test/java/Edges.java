import java.io.IOException;
import java.lang.reflect.Method;
import java.nio.file.Files;
import java.nio.file.Path;
import java.util.Arrays;
import java.util.Comparator;
import java.util.HashMap;
import java.util.HashSet;
import java.util.LinkedHashMap;
import java.util.Map;
import java.util.Set;

/**
 * Runs tests that each hold the class to one sentence of the document, and holds the tests to the document: what they
 * quote stands there, each part is quoted, and each refusal that a promise names is due in a test of that promise.
 */
final class Edges {
    static final int NONE = -1, UNKNOWN = -1000000001, OUTSIDE = -1000000002, NOT = -1000000003, FULL = -1000000004;
    static final int LOW = Integer.MIN_VALUE, HIGH = Integer.MAX_VALUE;
    private static final Path DOCUMENT = Path.of("../shared/DOC.md");

    private final Checks checks = new Checks();
    private final Map<String, String> parts = new LinkedHashMap<>();
    private final Map<String, Set<Long>> dues = new HashMap<>();
    private String part = "";
    private String test = "";

    Edges() throws IOException {
        if (!Files.isReadable(DOCUMENT)) {
            System.out.println("no document at " + DOCUMENT + ": what the tests quote is not looked up");
            return;
        }
        String all = plain(Files.readString(DOCUMENT));
        cut(all, "What it is", "## What it is", "## The public face");
        cut(all, "Terms", "## Terms", "======== 1 ");
        cut(all, "1", "======== 1 ", "======== 2 ");
        cut(all, "2", "======== 2 ", "======== 3 ");
        cut(all, "3", "======== 3 ", "## Promise 1:");
        for (int i = 1; i <= 31; i++) {
            cut(all, "Promise " + i, "## Promise " + i + ":", i < 31 ? "## Promise " + (i + 1) + ":" : "## Not promised");
        }
    }

    private static String plain(String text) {
        return text.replaceAll("\\s+", " ");
    }

    private void cut(String all, String name, String from, String to) {
        int start = all.indexOf(from);
        int end = all.indexOf(to, start);
        checks.holds("the document has " + name, start >= 0 && end > start);
        parts.put(name, start >= 0 && end > start ? all.substring(start, end) : "");
    }

    void runAll(Class<?> group) throws ReflectiveOperationException {
        Method[] methods = group.getDeclaredMethods();
        Arrays.sort(methods, Comparator.comparing(Method::getName));
        for (Method method : methods) {
            Says says = method.getAnnotation(Says.class);
            if (says == null) {
                continue;
            }
            begin(method.getName(), says);
            int before = checks.made();
            method.invoke(null, this);
            checks.holds(test + " checks something", checks.made() > before);
        }
    }

    private void begin(String name, Says says) {
        part = says.in();
        test = part + ", '" + says.value() + "' (" + name + ")";
        checks.holds("the document says " + test, parts.isEmpty() || parts.getOrDefault(part, "").contains(plain(says.value())));
        dues.putIfAbsent(part, new HashSet<>());
    }

    void due(String call, long got, long want) {
        dues.get(part).add(want);
        checks.due(test + ": " + call, got, want);
    }

    void finish() {
        for (String name : parts.keySet()) {
            checks.holds("a test quotes " + name, dues.containsKey(name));
            if (name.startsWith("Promise")) {
                checkRefusal(name, "UNKNOWN", UNKNOWN);
                checkRefusal(name, "OUTSIDE", OUTSIDE);
                checkRefusal(name, "NOT", NOT);
                checkRefusal(name, "FULL", FULL);
                checkRefusal(name, "NONE", NONE);
            }
        }
        checks.finish();
    }

    private void checkRefusal(String name, String word, long value) {
        boolean named = parts.get(name).matches(".*\\b" + word + "\\b.*");
        checks.holds("a test of " + name + " has " + word + " due", !named || dues.getOrDefault(name, Set.of()).contains(value));
    }

    /** A new object with a town that has no fault. */
    FollowCab town(String text) {
        return Checks.inTown(text);
    }

    /** A text that is taken: how many cars it has. */
    FollowCab taken(String text, int cars) {
        FollowCab x = new FollowCab();
        Checks.feedAll(x, text);
        due("town() of '" + text + "'", x.town(), cars);
        due("fault() of '" + text + "'", x.fault(), NONE);
        return x;
    }

    /** A text that has a fault: its number and its place. */
    FollowCab fault(String text, int number, int place) {
        FollowCab x = new FollowCab();
        Checks.feedAll(x, text);
        due("town() of '" + text + "'", x.town(), -10 - number);
        due("fault() of '" + text + "'", x.fault(), place);
        due("corners behind '" + text + "'", x.told(0), 0);
        return x;
    }

    /** Steps until so many are counted: 60 at once, as the calls of an object are few. */
    void stepTo(FollowCab x, int steps) {
        int left = steps - x.told(4);
        for (; left >= 60; left -= 60) {
            x.step(60);
        }
        if (left > 0) {
            x.step(left);
        }
        due("steps so far", x.told(4), steps);
    }

    /** Cars at the first corner that stay there, one clause each. */
    static String stayers(int cars) {
        return "c0 1;".repeat(cars);
    }

    /** Cars 0 .. size less 1 each of which follows the next, the last the first. */
    static String ring(int size) {
        StringBuilder text = new StringBuilder();
        for (int c = 0; c < size; c++) {
            text.append('f').append(c).append(' ').append((c + 1) % size).append(';');
        }
        return text.toString();
    }
}

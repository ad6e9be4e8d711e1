import java.io.IOException;
import java.lang.reflect.Method;
import java.nio.file.Files;
import java.nio.file.Path;
import java.util.ArrayList;
import java.util.List;
import java.util.Set;
import java.util.TreeSet;
import java.util.regex.Matcher;
import java.util.regex.Pattern;

/** What README.md tells is so: the answers of its example, its texts, its refusals; and it names each call. */
public final class ReadmeTest {
    private static final String REFUSALS = "UNKNOWN|OUTSIDE|NOT|FULL";
    private static final Pattern TOLD = Pattern.compile("for \\(char letter : \"([^\"]*)\"\\.toCharArray\\(\\)\\) \\{");
    private static final Pattern ANSWERED = Pattern.compile("cab\\.(\\w+)\\(([^)]*)\\); +// (-?\\d+|NONE|" + REFUSALS + ")\\b.*");
    private static final Pattern TEXT = Pattern.compile("\\| `([^`]*)` \\| (-?\\d+|NONE) \\| (-?\\d+|NONE) \\|");
    private static final Pattern REFUSAL = Pattern.compile("\\| `(" + REFUSALS + ")` \\| (-\\d+) \\| .* \\|");
    private static final Pattern CALL = Pattern.compile("\\| `(\\w+\\([\\w, ]*\\))` \\| .* \\| ?(.*) \\|");
    private static final Checks checks = new Checks();

    public static void main(String[] args) throws Exception {
        List<String> readme = Files.readAllLines(Path.of("README.md"));
        checkExample(readme);
        checkTexts(readme);
        checkRefusals(readme);
        checkCalls(readme);
        checkTests(readme);
        checks.finish();
    }

    /** The example is one run of calls on one object; a line of it that is not understood is a fault too. */
    private static void checkExample(List<String> readme) throws Exception {
        FollowCab cab = new FollowCab();
        Set<String> made = new TreeSet<>(Set.of("feed"));
        for (String line : block(readme, "```java")) {
            Matcher told = TOLD.matcher(line);
            Matcher answered = ANSWERED.matcher(line);
            if (told.matches()) {
                Checks.feedAll(cab, told.group(1));
            } else if (answered.matches()) {
                made.add(answered.group(1));
                checks.due("README.md: " + line, call(cab, answered.group(1), answered.group(2)), valueOf(answered.group(3)));
            } else {
                checks.holds("understood: " + line, line.isEmpty() || line.equals("}") || line.equals("    cab.feed(letter);")
                    || line.equals("FollowCab cab = new FollowCab();"));
            }
        }
        checks.holds("the example makes most calls: " + made, made.size() >= 20);
    }

    private static List<String> block(List<String> readme, String head) {
        int from = readme.indexOf(head);
        checks.holds("README.md has a block " + head, from >= 0);
        List<String> lines = new ArrayList<>();
        for (int i = from + 1; i < readme.size() && !readme.get(i).equals("```"); i++) {
            lines.add(readme.get(i));
        }
        return lines;
    }

    private static int call(FollowCab cab, String name, String arguments) throws ReflectiveOperationException {
        String[] parts = arguments.isEmpty() ? new String[0] : arguments.split(", ");
        Class<?>[] types = new Class<?>[parts.length];
        Object[] values = new Object[parts.length];
        for (int i = 0; i < parts.length; i++) {
            types[i] = int.class;
            values[i] = Integer.valueOf(parts[i]);
        }
        Method method = FollowCab.class.getMethod(name, types);
        return (Integer) method.invoke(cab, values);
    }

    private static int valueOf(String word) throws ReflectiveOperationException {
        return word.matches("-?\\d+") ? Integer.parseInt(word) : FollowCab.class.getField(word).getInt(null);
    }

    private static void checkTexts(List<String> readme) throws ReflectiveOperationException {
        Set<Integer> answers = new TreeSet<>();
        for (String line : readme) {
            Matcher row = TEXT.matcher(line);
            if (!row.matches()) {
                continue;
            }
            FollowCab cab = new FollowCab();
            Checks.feedAll(cab, row.group(1));
            int due = valueOf(row.group(2));
            answers.add(due);
            checks.due("README.md: town() of '" + row.group(1) + "'", cab.town(), due);
            checks.due("README.md: fault() of '" + row.group(1) + "'", cab.fault(), valueOf(row.group(3)));
        }
        checks.holds("README.md shows a text of each fault: " + answers, answers.containsAll(Set.of(-11, -12, -13, -14, 0, 3)));
    }

    private static void checkRefusals(List<String> readme) throws ReflectiveOperationException {
        StringBuilder order = new StringBuilder();
        for (String line : readme) {
            Matcher row = REFUSAL.matcher(line);
            if (row.matches()) {
                order.append(order.length() == 0 ? "" : "|").append(row.group(1));
                checks.due("README.md: " + row.group(1), Integer.parseInt(row.group(2)), valueOf(row.group(1)));
            }
        }
        checks.holds("README.md has the refusals in their order: " + order, order.toString().equals(REFUSALS));
    }

    /** The table has the document's calls in their order, each with the refusals that its promise names. */
    private static void checkCalls(List<String> readme) throws IOException {
        List<String> told = new ArrayList<>();
        for (String line : readme) {
            Matcher row = CALL.matcher(line);
            if (row.matches()) {
                told.add(row.group(1) + ": " + wordsOf(row.group(2)));
            }
        }
        checks.due("calls in README.md", told.size(), 30);
        List<String> due = new ArrayList<>();
        Matcher promise = Pattern.compile("(?m)^`int (\\w+\\([^)]*\\))`: (.*)$").matcher(Files.readString(Path.of("../shared/DOC.md")));
        while (promise.find()) {
            due.add(promise.group(1).replace("int ", "") + ": " + wordsOf(promise.group(2)));
        }
        checks.due("calls in DOC.md", due.size(), 30);
        for (int i = 0; i < Math.min(told.size(), due.size()); i++) {
            checks.holds("README.md has " + told.get(i) + ", due is " + due.get(i), told.get(i).equals(due.get(i)));
        }
    }

    private static List<String> wordsOf(String text) {
        List<String> words = new ArrayList<>();
        Matcher word = Pattern.compile("\\b(" + REFUSALS + ")\\b").matcher(text);
        while (word.find()) {
            words.add(word.group());
        }
        return words;
    }

    /** A test that is not told here would be looked for in vain. */
    private static void checkTests(List<String> readme) throws IOException {
        String all = String.join("\n", readme);
        checks.holds("README.md names .ci/run", all.contains("`.ci/run`"));
        try (var files = Files.list(Path.of("src/test/java"))) {
            for (Path file : (Iterable<Path>) files::iterator) {
                String name = file.getFileName().toString();
                checks.holds("README.md tells of " + name, !name.endsWith("Test.java") || all.contains("`src/test/java/" + name + "`"));
            }
        }
    }
}

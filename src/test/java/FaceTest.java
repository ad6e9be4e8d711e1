import java.lang.reflect.Constructor;
import java.lang.reflect.Field;
import java.lang.reflect.Method;
import java.lang.reflect.Modifier;
import java.nio.file.Files;
import java.nio.file.Path;
import java.util.Set;
import java.util.TreeSet;
import java.util.regex.Matcher;
import java.util.regex.Pattern;

/** The public face is the document's and no more; the source keeps to what of LANGUAGE.md can be looked up. */
public final class FaceTest {
    private static final String[] FACE = {
        "feed1", "town0", "fault0", "told1", "car2", "step1", "follow2", "letOff1", "turn1", "drift1", "undo0",
        "where2", "sees2", "rings1", "end2", "behind1", "stop0", "cross2", "handed2", "meets1", "asked1",
        "see3", "whom1", "look1", "write2", "tear0", "judge0", "seed1", "keep1", "goBack1"};
    private static final Checks checks = new Checks();

    public static void main(String[] args) throws Exception {
        checkMethods();
        checkRest();
        checkNested();
        checkSource();
        checks.finish();
    }

    private static void checkMethods() {
        Set<String> due = new TreeSet<>(Set.of(FACE));
        Set<String> found = new TreeSet<>();
        for (Method method : FollowCab.class.getDeclaredMethods()) {
            if (Modifier.isPrivate(method.getModifiers())) {
                for (String name : FACE) {
                    checks.holds("private " + method.getName(), !name.startsWith(method.getName()) || name.length() != method.getName().length() + 1);
                }
                continue;
            }
            checks.holds("public int " + method, Modifier.isPublic(method.getModifiers()) && method.getReturnType() == int.class);
            for (Class<?> type : method.getParameterTypes()) {
                checks.holds("int of " + method, type == int.class);
            }
            found.add(method.getName() + method.getParameterCount());
        }
        checks.holds("the methods are " + due + ": " + found, due.equals(found));
    }

    private static void checkRest() throws Exception {
        checks.holds("public final", (FollowCab.class.getModifiers() & (Modifier.PUBLIC | Modifier.FINAL)) == (Modifier.PUBLIC | Modifier.FINAL));
        Constructor<?>[] makers = FollowCab.class.getDeclaredConstructors();
        checks.due("constructors", makers.length, 1);
        checks.holds("public constructor", Modifier.isPublic(makers[0].getModifiers()) && makers[0].getParameterCount() == 0);
        Set<String> constants = new TreeSet<>();
        for (Field field : FollowCab.class.getDeclaredFields()) {
            if (!Modifier.isPrivate(field.getModifiers())) {
                constants.add(field.getName() + "=" + field.getInt(null));
            }
            checks.holds("static is final: " + field, !Modifier.isStatic(field.getModifiers()) || Modifier.isFinal(field.getModifiers()));
        }
        Set<String> due = Set.of("NONE=-1", "UNKNOWN=-1000000001", "OUTSIDE=-1000000002", "NOT=-1000000003", "FULL=-1000000004");
        checks.holds("the constants are " + constants, constants.equals(new TreeSet<>(due)));
    }

    private static void checkNested() {
        Class<?>[] nested = FollowCab.class.getDeclaredClasses();
        checks.holds("at most twelve classes", nested.length + 1 <= 12);
        for (Class<?> one : nested) {
            checks.holds("static: " + one, Modifier.isStatic(one.getModifiers()));
            checks.holds("not open: " + one, !Modifier.isPublic(one.getModifiers()) && !Modifier.isProtected(one.getModifiers()));
        }
    }

    private static void checkSource() throws Exception {
        String source = Files.readString(Path.of("src/main/java/FollowCab.java"));
        for (int i = 0; i < source.length(); i++) {
            if (source.charAt(i) > 126) {
                checks.holds("sign " + (int) source.charAt(i), false);
            }
        }
        String code = source.replaceAll("(?s)/\\*.*?\\*/", " ").replaceAll("//[^\n]*", " ");
        String[] ruledOut = {"throw", "throws", "try", "catch", "finally", "synchronized", "assert", "import", "package",
            "native", "volatile", "transient", "Object", "Thread", "Random", "equals", "hashCode", "toString", "protected"};
        for (String word : ruledOut) {
            Matcher matcher = Pattern.compile("\\b" + word + "\\b").matcher(code);
            checks.holds("ruled out: " + word, !matcher.find());
        }
        checks.holds("no lambda, no method reference", !code.contains("->") && !code.contains("::"));
        checks.holds("nothing ending in Exact", !code.contains("Exact"));
    }
}

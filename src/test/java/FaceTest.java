import java.lang.reflect.Constructor;
import java.lang.reflect.Field;
import java.lang.reflect.Method;
import java.lang.reflect.Modifier;
import java.util.Arrays;
import java.util.TreeSet;
import java.util.regex.Matcher;
import java.util.regex.Pattern;

/** The public face as the document has it, and promise 1. */
public final class FaceTest {
    private static final Check check = new Check();
    private static final Pattern METHOD = Pattern.compile("public int (\\w+)\\(([^)]*)\\);");

    public static void main(String[] args) {
        face();
        newObject();
        check.finish("FaceTest");
    }

    private static void face() {
        due("BAD", YearsLent.BAD, -1);
        due("NO", YearsLent.NO, -2);
        due("FULL", YearsLent.FULL, -3);
        due("NONE", YearsLent.NONE, -4);
        TreeSet<String> due = new TreeSet<>();
        TreeSet<String> names = new TreeSet<>();
        Matcher call = METHOD.matcher(Doc.words());
        while (call.find()) {
            names.add(call.group(1));
            due.add(call.group(1) + "(" + call.group(2).replaceAll(" \\w+(, |$)", "$1").replace(", ", ",") + ")");
        }
        due("calls that the document has", due.size(), 25);
        TreeSet<String> found = new TreeSet<>();
        for (Method m : YearsLent.class.getDeclaredMethods()) {
            if (Modifier.isPrivate(m.getModifiers())) {
                due("private " + m.getName() + " bears a public name", names.contains(m.getName()) ? 1 : 0, 0);
                continue;
            }
            due(m.getName() + " is public", Modifier.isPublic(m.getModifiers()) ? 1 : 0, 1);
            due(m.getName() + " answers int", m.getReturnType() == int.class ? 1 : 0, 1);
            StringBuilder types = new StringBuilder();
            for (Class<?> type : m.getParameterTypes()) {
                types.append(types.length() == 0 ? "" : ",").append(type);
            }
            found.add(m.getName() + "(" + types + ")");
        }
        due("the methods", found.equals(due) ? 1 : 0, 1);
        for (Field f : YearsLent.class.getDeclaredFields()) {
            boolean constant = Arrays.asList("BAD", "NO", "FULL", "NONE").contains(f.getName());
            due("field " + f.getName(), constant == Modifier.isPublic(f.getModifiers())
                && constant != Modifier.isPrivate(f.getModifiers()) ? 1 : 0, 1);
            due("static " + f.getName() + " is final", !Modifier.isStatic(f.getModifiers())
                || Modifier.isFinal(f.getModifiers()) ? 1 : 0, 1);
        }
        Constructor<?>[] made = YearsLent.class.getDeclaredConstructors();
        due("constructors", made.length, 1);
        due("the class is final", Modifier.isFinal(YearsLent.class.getModifiers()) ? 1 : 0, 1);
    }

    private static void newObject() {
        YearsLent x = new YearsLent();
        int[] counts = {2, 0, 0, 0, 0, 0, 0};
        for (int what = 0; what < counts.length; what++) {
            due("count(" + what + ")", x.count(what), counts[what]);
        }
        due("person(0, 0)", x.person(0, 0), 50);
        due("person(1, 0)", x.person(1, 0), 80);
        due("INTEREST is 10: due in 49 for 10", x.notary(1, 0, 10, 48), 1);
        due("INTEREST is 10: due in 49 for 10", x.notary(1, 0, 10, 49), 0);
        due("wipe()", x.wipe(), 0);
        due("fault()", x.fault(), YearsLent.NONE);
        due("lay()", x.lay(), YearsLent.NO);
        due("lend(0, 1, 49, 1)", x.lend(0, 1, 49, 1), 1);
        due("new objects share nothing", new YearsLent().count(1), 0);
    }

    private static void due(String call, long got, long want) {
        check.due(call, got, want);
    }
}

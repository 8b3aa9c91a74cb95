import java.io.IOException;
import java.lang.reflect.Constructor;
import java.lang.reflect.Field;
import java.lang.reflect.Method;
import java.lang.reflect.Modifier;
import java.nio.file.Files;
import java.nio.file.Path;
import java.util.Arrays;
import java.util.TreeSet;

/** The public face, promise 1, and those rules of the language that can be seen from the file. */
public final class FaceTest {
    private static final Check check = new Check();

    public static void main(String[] args) throws IOException {
        face();
        newObject();
        source();
        check.finish("FaceTest");
    }

    private static void face() {
        due("BAD", YearsLent.BAD, -1);
        due("NO", YearsLent.NO, -2);
        due("FULL", YearsLent.FULL, -3);
        due("NONE", YearsLent.NONE, -4);
        String[] due = {
            "write(int,long)", "wipe()", "fault()", "lay()", "person(int,int)", "loan(int,int)",
            "notary(int,int,int,int)", "lend(int,int,int,int)", "week()", "undo()", "dies(int)", "run(int,int,int)",
            "tell(int,int,int,boolean)", "forget()", "span(int,int)", "ask(int,int)", "bribed()", "cleared(int,int)",
            "child(int,int)", "falls(int,int)", "burned(int,int,int,int)", "drawn(int,int,int)", "keep()", "back()",
            "count(int)"};
        TreeSet<String> names = new TreeSet<>();
        for (String call : due) {
            names.add(call.substring(0, call.indexOf('(')));
        }
        TreeSet<String> found = new TreeSet<>();
        for (Method m : YearsLent.class.getDeclaredMethods()) {
            if (Modifier.isPrivate(m.getModifiers())) {
                due("private " + m.getName() + " bears a public name", names.contains(m.getName()) ? 1 : 0, 0);
                continue;
            }
            due(m.getName() + " is public", Modifier.isPublic(m.getModifiers()) ? 1 : 0, 1);
            due(m.getName() + " answers int", m.getReturnType() == int.class ? 1 : 0, 1);
            StringBuilder types = new StringBuilder();
            for (Class<?> type : m.getParameterTypes()) {
                types.append(types.length() == 0 ? "" : ",").append(type);
            }
            found.add(m.getName() + "(" + types + ")");
        }
        due("the methods", found.equals(new TreeSet<>(Arrays.asList(due))) ? 1 : 0, 1);
        for (Field f : YearsLent.class.getDeclaredFields()) {
            boolean constant = Arrays.asList("BAD", "NO", "FULL", "NONE").contains(f.getName());
            due("field " + f.getName(), constant == Modifier.isPublic(f.getModifiers())
                && constant != Modifier.isPrivate(f.getModifiers()) ? 1 : 0, 1);
            due("static " + f.getName() + " is final", !Modifier.isStatic(f.getModifiers())
                || Modifier.isFinal(f.getModifiers()) ? 1 : 0, 1);
        }
        Constructor<?>[] made = YearsLent.class.getDeclaredConstructors();
        due("constructors", made.length, 1);
        due("the class is final", Modifier.isFinal(YearsLent.class.getModifiers()) ? 1 : 0, 1);
        due("some twelve classes", YearsLent.class.getDeclaredClasses().length <= 12 ? 1 : 0, 1);
    }

    private static void newObject() {
        YearsLent x = new YearsLent();
        int[] counts = {2, 0, 0, 0, 0, 0, 0};
        for (int what = 0; what < counts.length; what++) {
            due("count(" + what + ")", x.count(what), counts[what]);
        }
        due("person(0, 0)", x.person(0, 0), 50);
        due("person(1, 0)", x.person(1, 0), 80);
        due("INTEREST is 10: due in 49 for 10", x.notary(1, 0, 10, 48), 1);
        due("INTEREST is 10: due in 49 for 10", x.notary(1, 0, 10, 49), 0);
        due("wipe()", x.wipe(), 0);
        due("fault()", x.fault(), YearsLent.NONE);
        due("lay()", x.lay(), YearsLent.NO);
        due("lend(0, 1, 49, 1)", x.lend(0, 1, 49, 1), 1);
        due("new objects share nothing", new YearsLent().count(1), 0);
    }

    private static void source() throws IOException {
        String code = Files.readString(Path.of("src/main/java/YearsLent.java"));
        String[] ruledOut = {"import ", "package ", "->", "::", "try ", "catch", "throw", "finally", "synchronized",
            "assert ", "instanceof", "Exact(", "System.out", "protected ", "Object ", "Integer.", "Long."};
        for (String words : ruledOut) {
            due("the file has '" + words + "'", code.contains(words) ? 1 : 0, 0);
        }
    }

    private static void due(String call, long got, long want) {
        check.due(call, got, want);
    }
}

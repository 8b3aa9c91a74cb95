import java.io.IOException;
import java.lang.reflect.InvocationTargetException;
import java.lang.reflect.Method;
import java.lang.reflect.Modifier;
import java.nio.file.DirectoryStream;
import java.nio.file.Files;
import java.nio.file.Path;
import java.util.regex.Matcher;
import java.util.regex.Pattern;

/** README.md is so: its run answers as it says, and it names every call of the face and every test. */
public final class ReadmeTest {
    private static final Check check = new Check();
    private static final Pattern CALL = Pattern.compile("(?m)^x\\.(\\w+)\\((.*?)\\);(?: *// (-?\\d+)\\b)?");

    private static final Pattern TEST = Pattern.compile("(?m)^\\| `(\\w+Test)` ");

    public static void main(String[] args) throws IOException, ReflectiveOperationException {
        String page = Files.readString(Path.of("README.md"));
        run(page);
        namesEveryCall(page);
        namesEveryTest(page);
        check.finish("ReadmeTest");
    }

    private static void run(String page) throws ReflectiveOperationException {
        YearsLent x = new YearsLent();
        Matcher call = CALL.matcher(page);
        while (call.find()) {
            String said = call.group(3);
            check.due(call.group() + " has an answer", said == null ? 0 : 1, 1);
            long answer = answerOf(x, call.group(1), call.group(2));
            check.due(call.group(1) + "(" + call.group(2) + ")", answer, said == null ? answer : Long.parseLong(said));
        }
    }

    private static int answerOf(YearsLent x, String name, String written)
            throws IllegalAccessException, InvocationTargetException {
        String[] words = written.isEmpty() ? new String[0] : written.split(", *");
        Method method = methodOf(name);
        Class<?>[] types = method.getParameterTypes();
        Object[] given = new Object[types.length];
        for (int k = 0; k < types.length; k++) {
            String word = words[k].replace("L", "");
            given[k] = types[k] == boolean.class ? (Object) Boolean.valueOf(word)
                : types[k] == long.class ? (Object) Long.decode(word) : (Object) Integer.decode(word);
        }
        return (Integer) method.invoke(x, given);
    }

    private static Method methodOf(String name) {
        for (Method method : YearsLent.class.getDeclaredMethods()) {
            if (Modifier.isPublic(method.getModifiers()) && method.getName().equals(name)) {
                return method;
            }
        }
        throw new IllegalArgumentException("no such call: " + name);
    }

    private static void namesEveryCall(String page) {
        for (Method method : YearsLent.class.getDeclaredMethods()) {
            if (Modifier.isPublic(method.getModifiers())) {
                String name = method.getName();
                check.due(name + " stands in the table of calls", page.contains("| `" + name + "(") ? 1 : 0, 1);
                check.due(name + " stands in the run", page.contains("\nx." + name + "(") ? 1 : 0, 1);
            }
        }
    }

    private static void namesEveryTest(String page) throws IOException {
        try (DirectoryStream<Path> files = Files.newDirectoryStream(Path.of("src/test/java"), "*Test.java")) {
            for (Path file : files) {
                String name = file.getFileName().toString().replace(".java", "");
                check.due(name + " stands in a table of tests", page.contains("| `" + name + "`") ? 1 : 0, 1);
            }
        }
        Matcher named = TEST.matcher(page);
        while (named.find()) {
            boolean stands = Files.exists(Path.of("src/test/java", named.group(1) + ".java"));
            check.due(named.group(1) + " is a test of the project", stands ? 1 : 0, 1);
        }
    }
}

import java.io.IOException;
import java.lang.reflect.Field;
import java.lang.reflect.Modifier;
import java.nio.file.Files;
import java.nio.file.Path;
import java.util.ArrayList;
import java.util.Arrays;
import java.util.HashSet;
import java.util.List;
import java.util.Map;
import java.util.Set;
import java.util.TreeMap;
import java.util.TreeSet;
import java.util.regex.Matcher;
import java.util.regex.Pattern;

/** Those rules of ../shared/LANGUAGE.md that can be seen from the file of the class. */
public final class LanguageTest {
    private static final Check check = new Check();
    private static final Pattern HEAD = Pattern.compile(
        "(?m)^ +((?:public |private |static |final )*)(?:int|boolean|void) (\\w+)\\(([^)]*)\\) \\{");
    private static final Pattern CALL = Pattern.compile("(?<!new )\\b(\\w+)\\(");
    private static final Pattern LIBRARY = Pattern.compile("(?<![\\w.])([A-Z]\\w*[a-z]\\w*\\.\\w+)\\(");
    private static final Set<String> LISTED = Set.of("Math.max", "Math.min", "System.arraycopy");
    private static final int MOST_LINES = 60, MOST_PARAMETERS = 7, MOST_DEPTH = 8, MOST_CLASSES = 12, MOST_FIELDS = 20;

    public static void main(String[] args) throws IOException {
        String code = Files.readString(Path.of("src/main/java/YearsLent.java"));
        String bare = code.replaceAll("(?s)/\\*.*?\\*/", "").replaceAll("//[^\n]*", "").replaceAll("'.'", "0");
        words(code);
        library(bare);
        classes();
        Map<String, Set<String>> calls = methods(bare);
        depth(calls);
        check.finish("LanguageTest");
    }

    private static void words(String code) {
        String[] ruledOut = {"import ", "package ", "->", "::", "try ", "catch", "throw", "finally", "synchronized",
            "assert ", "instanceof", "Exact(", "System.out", "protected ", "Object ", "Integer.", "Long.", "double ", "float ",
            "static {", "@", "native ", "transient ", "volatile "};
        for (String words : ruledOut) {
            due("the file has '" + words + "'", code.contains(words), false);
        }
    }

    private static void library(String bare) {
        Matcher used = LIBRARY.matcher(bare);
        while (used.find()) {
            due(used.group(1) + " is of the library listed", LISTED.contains(used.group(1)), true);
        }
    }

    private static void classes() {
        List<Class<?>> all = new ArrayList<>(Arrays.asList(YearsLent.class.getDeclaredClasses()));
        due("some twelve classes", all.size() + 1 <= MOST_CLASSES, true);
        all.add(YearsLent.class);
        for (Class<?> one : all) {
            boolean outer = one == YearsLent.class;
            due(one + " is static inside, and not public", outer
                || Modifier.isStatic(one.getModifiers()) && !Modifier.isPublic(one.getModifiers()), true);
            int fields = 0;
            for (Field field : one.getDeclaredFields()) {
                boolean isStatic = Modifier.isStatic(field.getModifiers());
                fields += isStatic ? 0 : 1;
                due("static " + field + " is a final number", !isStatic
                    || Modifier.isFinal(field.getModifiers()) && field.getType() == int.class, true);
            }
            due(one + " has some twenty fields", fields <= MOST_FIELDS, true);
        }
    }

    /** Which names each name calls; methods of one name in several classes are taken as one, which errs to the deeper side. */
    private static Map<String, Set<String>> methods(String bare) {
        Map<String, Set<String>> calls = new TreeMap<>();
        Set<String> face = new HashSet<>();
        Set<String> inside = new TreeSet<>();
        Matcher head = HEAD.matcher(bare);
        while (head.find()) {
            String name = head.group(2);
            (head.group(1).contains("public") ? face : inside).add(name);
            String body = bare.substring(head.end(), endOf(bare, head.end()));
            due(name + " is short", body.split("\n").length <= MOST_LINES, true);
            due(name + " takes few numbers", head.group(3).split(",").length <= MOST_PARAMETERS, true);
            due(name + " makes an object", body.contains("new "), false);
            Set<String> called = calls.computeIfAbsent(name, any -> new TreeSet<>());
            Matcher call = CALL.matcher(body);
            while (call.find()) {
                called.add(call.group(1));
            }
            called.remove(name);
        }
        due("the face is found", face.size() == 25, true);
        inside.retainAll(face);
        due("names of the face inside: " + inside, inside.isEmpty(), true);
        return calls;
    }

    private static int endOf(String bare, int start) {
        int open = 1;
        int place = start;
        while (open > 0 && place < bare.length()) {
            open += bare.charAt(place) == '{' ? 1 : bare.charAt(place) == '}' ? -1 : 0;
            place++;
        }
        return place;
    }

    private static void depth(Map<String, Set<String>> calls) {
        for (String name : calls.keySet()) {
            int depth = depthOf(name, calls, 0);
            due(name + " goes " + depth + " deep", depth <= MOST_DEPTH, true);
        }
    }

    private static int depthOf(String name, Map<String, Set<String>> calls, int above) {
        if (above > MOST_DEPTH || !calls.containsKey(name)) {
            return 0;
        }
        int deepest = 0;
        for (String called : calls.get(name)) {
            deepest = Math.max(deepest, depthOf(called, calls, above + 1));
        }
        return deepest + 1;
    }

    private static void due(String what, boolean got, boolean want) {
        check.due(what, got ? 1 : 0, want ? 1 : 0);
    }
}

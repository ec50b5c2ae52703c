import java.io.IOException;
import java.lang.reflect.Field;
import java.lang.reflect.Modifier;
import java.nio.file.Files;
import java.nio.file.Path;
import java.util.LinkedHashMap;
import java.util.Map;
import java.util.regex.Matcher;
import java.util.regex.Pattern;

/** How long, how many and how deep: rules 8 and 11 of LANGUAGE.md, read off the source and the class. */
public final class LimitsTest {
    private static final int MOST_LINES = 60;
    private static final int MOST_DEEP = 8;
    private static final int MOST_CLASSES = 12;
    private static final int MOST_FIELDS = 20;

    // A method's braces stand at its own indent, so its body ends at the first brace that does.
    private static final Pattern METHOD =
        Pattern.compile("(?m)^( {4}| {8})(?:[a-z]+ )*(?:int|long|boolean|void|char) (\\w+)\\([^)]*\\) \\{\n"
            + "((?s:.*?))^\\1\\}$");

    private static final Checks T = new Checks();

    public static void main(String[] args) throws IOException {
        String text = Files.readString(Path.of("src/main/java/RookRing.java"));
        Map<String, String> bodies = bodies(text.replaceAll("//[^\n]*", ""));
        for (Map.Entry<String, String> method : bodies.entrySet()) {
            long lines = method.getValue().lines().count() + 2;
            T.holds(method.getKey() + " has " + lines + " lines", lines <= MOST_LINES);
            int deep = depth(method.getKey(), bodies, 1);
            T.holds(method.getKey() + " goes " + deep + " deep", deep <= MOST_DEEP);
        }
        classes();
        T.end();
    }

    private static Map<String, String> bodies(String code) {
        Map<String, String> bodies = new LinkedHashMap<>();
        Matcher method = METHOD.matcher(code);
        while (method.find()) {
            T.holds("two methods are called " + method.group(2), !bodies.containsKey(method.group(2)));
            bodies.put(method.group(2), method.group(3));
        }
        T.due("methods found", bodies.size(), declared(RookRing.class));
        return bodies;
    }

    private static int declared(Class<?> where) {
        int methods = where.getDeclaredMethods().length;
        for (Class<?> inside : where.getDeclaredClasses()) {
            methods += declared(inside);
        }
        return methods;
    }

    /** Calls that stand open at once; one that comes back to itself goes beyond any limit. */
    private static int depth(String name, Map<String, String> bodies, int open) {
        int deepest = open;
        if (open > MOST_DEEP) {
            return deepest;
        }
        for (String other : bodies.keySet()) {
            if (Pattern.compile("\\b" + other + "\\(").matcher(bodies.get(name)).find()) {
                deepest = Math.max(deepest, depth(other, bodies, open + 1));
            }
        }
        return deepest;
    }

    private static void classes() {
        Class<?>[] inside = RookRing.class.getDeclaredClasses();
        T.holds(inside.length + " classes inside", inside.length < MOST_CLASSES);
        T.holds("too many fields", fields(RookRing.class) <= MOST_FIELDS);
        for (Class<?> one : inside) {
            T.holds(one + " has too many fields", fields(one) <= MOST_FIELDS);
        }
    }

    private static int fields(Class<?> where) {
        int fields = 0;
        for (Field field : where.getDeclaredFields()) {
            fields += Modifier.isStatic(field.getModifiers()) ? 0 : 1;
        }
        return fields;
    }
}

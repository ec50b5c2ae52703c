import java.io.IOException;
import java.lang.reflect.Method;
import java.lang.reflect.Modifier;
import java.nio.file.Files;
import java.nio.file.Path;
import java.util.Map;
import java.util.TreeMap;
import java.util.regex.Matcher;
import java.util.regex.Pattern;

/** What README.md says of the calls is so: its example is run line by line, and no call is missing. */
public final class ReadmeTest {
    private static final Pattern TYPED = Pattern.compile("for \\(char letter : \"([^\"]*)\"");
    private static final Pattern CALL = Pattern.compile("(?m)^x\\.(\\w+)\\(([-\\d, ]*)\\); +// (\\S+)$");
    private static final Pattern ANY_CALL = Pattern.compile("(?m)^x\\.");

    private static final Checks T = new Checks();

    public static void main(String[] args) throws IOException, ReflectiveOperationException {
        String readme = Files.readString(Path.of("README.md"));
        Map<String, Method> face = face();
        for (Map.Entry<String, Method> call : face.entrySet()) {
            int arguments = call.getValue().getParameterCount();
            String told = "`" + call.getKey() + "\\((\\w+(, \\w+){" + (arguments - 1) + "})\\)`";
            String alone = "`" + call.getKey() + "\\(\\)`";
            T.holds("README.md tells nothing of " + call.getValue(),
                Pattern.compile(arguments == 0 ? alone : told).matcher(readme).find());
        }
        example(readme, face);
        T.end();
    }

    private static Map<String, Method> face() {
        Map<String, Method> face = new TreeMap<>();
        for (Method method : RookRing.class.getDeclaredMethods()) {
            if (Modifier.isPublic(method.getModifiers())) {
                face.put(method.getName(), method);
            }
        }
        return face;
    }

    private static void example(String readme, Map<String, Method> face) throws ReflectiveOperationException {
        Matcher typed = TYPED.matcher(readme);
        T.holds("README.md writes no ring", typed.find());
        RookRing x = new RookRing();
        Checks.type(x, typed.group(1));
        Matcher call = CALL.matcher(readme);
        int run = 0;
        while (call.find()) {
            T.due("README.md: " + call.group(), answer(x, face.get(call.group(1)), call.group(2)), due(call.group(3)));
            run++;
        }
        // A line that is written otherwise would be passed over.
        T.due("calls of the example", run, ANY_CALL.matcher(readme).results().count());
        T.holds("README.md has no example", run > 0);
    }

    private static long answer(RookRing x, Method method, String numbers) throws ReflectiveOperationException {
        String[] told = numbers.isEmpty() ? new String[0] : numbers.split(", *");
        Object[] arguments = new Object[told.length];
        for (int i = 0; i < told.length; i++) {
            arguments[i] = Integer.valueOf(told[i]);
        }
        return ((Number) method.invoke(x, arguments)).longValue();
    }

    private static long due(String told) throws ReflectiveOperationException {
        boolean isName = Character.isLetter(told.charAt(0));
        return isName ? RookRing.class.getField(told).getInt(null) : Long.parseLong(told);
    }
}

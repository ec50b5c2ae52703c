import java.io.IOException;
import java.lang.reflect.Field;
import java.lang.reflect.Method;
import java.lang.reflect.Modifier;
import java.nio.file.Files;
import java.nio.file.Path;
import java.util.Arrays;
import java.util.Set;
import java.util.TreeSet;
import java.util.regex.Pattern;

/** The document's face, and those rules of LANGUAGE.md that can be read off the source. */
public final class FaceTest {
    private static final String[] FACE = {
        "int letter(int)", "int blank()", "int fault()", "int ring()", "int about(int,int)", "int as(int,int)",
        "int seat(int)", "int exchange(int,int)", "int twig(int,int)", "int wind(int)", "int comes(int,int)",
        "int sit(int,int)", "int where(int,int)", "int can()", "int endless(int,int,int)",
        "int seating(int,int,int)", "int nestlings(int,int,int,int,int)", "int observe(int,int,int)",
        "int forget()", "int guess(int,int)", "int caw(int)", "int years(int,int,int)", "int image()",
        "int restore()", "int count(int)", "long digest()"};
    private static final String[] NOT_ALLOWED = {
        "\\b(throw|throws|try|catch|finally|synchronized|assert|protected|volatile|native|package)\\b",
        "->", "::", "\\b(System\\.(?!arraycopy))", "\\bRuntime\\b", "\\bThread\\b", "\\bRandom\\b", "Exact\\b",
        "\\bString\\.", "\\b(equals|hashCode|toString)\\s*\\(", "static\\s*\\{", "\\[\\]\\s*\\[\\]"};

    private static final Checks T = new Checks();

    public static void main(String[] args) throws IOException {
        constants();
        members();
        source(Files.readString(Path.of("src/main/java/RookRing.java")));
        T.end();
    }

    private static void constants() {
        T.due("NONE", RookRing.NONE, -1);
        T.due("UNKNOWN", RookRing.UNKNOWN, -101);
        T.due("OUTSIDE", RookRing.OUTSIDE, -102);
        T.due("STATE", RookRing.STATE, -103);
        T.due("FULL", RookRing.FULL, -104);
    }

    private static void members() {
        T.holds("the class is public and final", (RookRing.class.getModifiers() & 0x11) == 0x11);
        T.due("constructors", RookRing.class.getDeclaredConstructors().length, 1);
        Set<String> open = new TreeSet<>();
        Set<String> names = new TreeSet<>();
        for (Method method : RookRing.class.getDeclaredMethods()) {
            if (!Modifier.isPrivate(method.getModifiers())) {
                T.holds(method + " is public", Modifier.isPublic(method.getModifiers()));
                open.add(told(method));
                names.add(method.getName());
            }
        }
        T.holds("the face is " + open, open.equals(new TreeSet<>(Arrays.asList(FACE))));
        hidden(RookRing.class, names);
        for (Class<?> inside : RookRing.class.getDeclaredClasses()) {
            T.holds(inside + " is static", Modifier.isStatic(inside.getModifiers()));
            hidden(inside, names);
        }
        for (Field field : RookRing.class.getDeclaredFields()) {
            boolean isConstant = Set.of("NONE", "UNKNOWN", "OUTSIDE", "STATE", "FULL").contains(field.getName());
            T.holds(field + " is hidden", isConstant || Modifier.isPrivate(field.getModifiers()));
        }
    }

    private static String told(Method method) {
        String types = String.join(",", Arrays.stream(method.getParameterTypes()).map(Class::getName).toList());
        return method.getReturnType() + " " + method.getName() + "(" + types + ")";
    }

    private static void hidden(Class<?> where, Set<String> faceNames) {
        for (Method method : where.getDeclaredMethods()) {
            boolean ofFace = where == RookRing.class && Modifier.isPublic(method.getModifiers());
            T.holds(method + " bears a name of the face", ofFace || !faceNames.contains(method.getName()));
            T.holds(method + " takes at most seven", method.getParameterCount() <= 7);
        }
        for (Field field : where.getDeclaredFields()) {
            int modifiers = field.getModifiers();
            T.holds(field + " is final", !Modifier.isStatic(modifiers) || Modifier.isFinal(modifiers));
        }
    }

    private static void source(String text) {
        String code = text.replaceAll("(?s)/\\*.*?\\*/", "").replaceAll("//[^\n]*", "");
        for (String rule : NOT_ALLOWED) {
            T.holds("the source has " + rule, !Pattern.compile(rule).matcher(code).find());
        }
        for (String line : code.split("\n")) {
            T.holds("not allowed: " + line, !line.startsWith("import") || line.equals("import java.util.Arrays;"));
            // Rows are made with the object alone, so no call fills the room.
            T.holds("made in a call: " + line, !line.contains("new ") || line.trim().startsWith("private final "));
        }
    }
}

import java.io.IOException;
import java.lang.reflect.Constructor;
import java.lang.reflect.Field;
import java.lang.reflect.Method;
import java.lang.reflect.Modifier;
import java.nio.file.Files;
import java.nio.file.Path;
import java.util.Arrays;
import java.util.Set;
import java.util.TreeSet;
import java.util.regex.Pattern;

/** The public face, and rules of LANGUAGE.md that reflection or the text of the class can show. */
public final class FaceTest {
    private static final String BOUNDS = "IndexOutOfBoundsException";
    private static final String ARGUMENT = "IllegalArgumentException";
    private static final String STATE = "IllegalStateException";
    private static final Set<String> CONSTANTS =
        Set.of("int", "long", "boolean", "char", "String", "int[]", "long[]", "char[]", "byte[]");
    private static final String LIBRARY = "(Arrays|ArrayList|List|Iterator|NoSuchElementException)";
    private static final Path SOURCE = Path.of("src/main/java/SeenPages.java");

    public static void main(String[] args) throws IOException {
        theMethods();
        nothingElse();
        theText(Files.readString(SOURCE));
        Expect.end();
    }

    private static void theMethods() {
        face("put", 1, "int", ARGUMENT, STATE);
        face("take", 1, "int", BOUNDS, STATE);
        face("change", 2, "int", BOUNDS, ARGUMENT, STATE);
        face("open", 1, "int", BOUNDS);
        face("close", 1, "int", BOUNDS, STATE);
        face("sweep", 1, "int", BOUNDS);
        face("sweepAll", 0, "int");
        face("ask", 3, "int", BOUNDS, ARGUMENT, STATE);
        face("append", 1, "int", ARGUMENT, STATE);
        face("clearBuffer", 0, "int");
        face("firstError", 0, "int");
        face("play", 0, "int", ARGUMENT);
        face("undo", 0, "int", STATE);
        face("slot", 2, "int", BOUNDS, ARGUMENT);
        face("page", 2, "int", BOUNDS, ARGUMENT);
        face("asker", 2, "int", BOUNDS, ARGUMENT);
        face("count", 1, "int", ARGUMENT);
        face("ifAsked", 4, "int", ARGUMENT);
        face("lies", 1, "int", ARGUMENT);
        face("cheapest", 1, "int", ARGUMENT);
        face("holder", 0, "int");
        face("marked", 0, "double");
        face("digest", 0, "long");
    }

    private static void face(String name, int arguments, String returned, String... thrown) {
        Class<?>[] kinds = new Class<?>[arguments];
        Arrays.fill(kinds, int.class);
        String due = "public " + returned + " " + Arrays.toString(thrown);
        Expect.note("method " + name, due, described(name, kinds));
    }

    private static String described(String name, Class<?>[] kinds) {
        try {
            Method method = SeenPages.class.getDeclaredMethod(name, kinds);
            Object[] thrown = Arrays.stream(method.getExceptionTypes()).map(Class::getSimpleName).toArray();
            return Modifier.toString(method.getModifiers()) + " " + method.getReturnType() + " " + Arrays.toString(thrown);
        } catch (NoSuchMethodException none) {
            return "none";
        }
    }

    private static void nothingElse() {
        Set<String> open = new TreeSet<>();
        Set<String> hidden = new TreeSet<>();
        for (Method method : SeenPages.class.getDeclaredMethods()) {
            (Modifier.isPrivate(method.getModifiers()) ? hidden : open).add(method.getName());
        }
        Expect.same("visible methods", 23, open.size());
        hidden.retainAll(open);
        Expect.note("private methods with a public one's name", "[]", hidden.toString());
        for (Field field : SeenPages.class.getDeclaredFields()) {
            theField(field.getName(), field);
        }
        Expect.same("constructors", 1, SeenPages.class.getDeclaredConstructors().length);
        for (Constructor<?> constructor : SeenPages.class.getDeclaredConstructors()) {
            Expect.note("constructor", "public SeenPages()", constructor.toString());
        }
        for (Class<?> inside : SeenPages.class.getDeclaredClasses()) {
            Expect.same(inside + " is static", 1, Modifier.isStatic(inside.getModifiers()) ? 1 : 0);
        }
        Expect.note("class", "public final", Modifier.toString(SeenPages.class.getModifiers()));
    }

    private static void theField(String name, Field field) {
        int signs = field.getModifiers();
        if (name.equals("NONE")) {
            Expect.note("NONE", "public static final", Modifier.toString(signs));
            return;
        }
        Expect.same("field " + name + " is private", 1, Modifier.isPrivate(signs) ? 1 : 0);
        boolean kept = Modifier.isFinal(signs) && CONSTANTS.contains(field.getType().getSimpleName());
        Expect.same("constant " + name + " is final, of a type of rule 5", 1, kept || !Modifier.isStatic(signs) ? 1 : 0);
    }

    private static void theText(String source) {
        String code = source.replaceAll("(?s)/\\*.*?\\*/", "").replaceAll("//[^\n]*", "");
        for (String word : new String[] {"finally", "synchronized", "assert", "package", "Object", "Double", "Float",
            "System\\.(?!arraycopy)\\w+", "\\w+Exact", "(?!java\\.util\\." + LIBRARY + ";)java\\.\\S+", "static \\{"}) {
            Expect.same("uses of " + word, 0, Pattern.compile("\\b" + word).matcher(code).results().count());
        }
        Expect.same("lambdas and references", 0, Pattern.compile("->|::").matcher(code).results().count());
        Expect.same("signs beyond 127", 0, source.chars().filter(sign -> sign > 127).count());
    }
}

import java.lang.reflect.Executable;
import java.lang.reflect.Method;
import java.lang.reflect.Modifier;
import java.util.ArrayList;
import java.util.Arrays;
import java.util.List;
import java.util.stream.Collectors;

/** The heads of the face's calls, as the document writes them, but told by the compiled class. */
final class Heads {
    private Heads() {
    }

    /** The head without its arguments' names, which are no part of a compiled class. */
    static String nameless(String head) {
        return head.replaceAll("(int) \\w+(?=[,)])", "$1");
    }

    /** The head of the call that a head of the document names. */
    static String ofClass(String head) {
        String typeAndName = head.substring(0, head.indexOf('('));
        String name = typeAndName.substring(typeAndName.indexOf(' ') + 1);
        List<String> heads = new ArrayList<>();
        if (name.equals("SeenPages")) {
            Arrays.stream(SeenPages.class.getDeclaredConstructors()).forEach(made -> heads.add(name + tail(made)));
        }
        for (Method method : SeenPages.class.getDeclaredMethods()) {
            if (method.getName().equals(name)) {
                heads.add(method.getReturnType().getName() + " " + name + tail(method));
            }
        }
        return String.join(" and ", heads);
    }

    private static String tail(Executable call) {
        String taken = Arrays.stream(call.getParameterTypes()).map(Class::getName).collect(Collectors.joining(", "));
        String thrown = Arrays.stream(call.getExceptionTypes()).map(Class::getSimpleName).collect(Collectors.joining(", "));
        String seen = Modifier.toString(call.getModifiers()).equals("public") ? "" : ", not just public";
        return "(" + taken + ")" + (thrown.isEmpty() ? "" : " throws " + thrown) + seen;
    }
}

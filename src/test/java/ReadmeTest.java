import java.io.ByteArrayOutputStream;
import java.io.File;
import java.io.IOException;
import java.io.PrintStream;
import java.lang.reflect.Method;
import java.nio.file.Files;
import java.nio.file.Path;
import java.util.ArrayList;
import java.util.Arrays;
import java.util.List;

/** README.md: its tour is the one that can be run, and it has each call and each test. */
public final class ReadmeTest {
    private static final Path TOUR = Path.of("src/example/java/Tour.java");
    private static final File TESTS = new File("src/test/java");

    public static void main(String[] args) throws IOException {
        Readme readme = new Readme();
        Expect.note("the tour", List.of(Files.readString(TOUR)).toString(), readme.blocks("java").toString());
        Expect.note("what it prints", List.of(said()).toString(), readme.blocks("text").toString());
        theCalls(readme.rows());
        theTests(readme.rows());
        theCommands(readme.commands());
        Expect.end();
    }

    private static String said() {
        PrintStream before = System.out;
        ByteArrayOutputStream said = new ByteArrayOutputStream();
        System.setOut(new PrintStream(said));
        Tour.main(new String[0]);
        System.out.flush();
        System.setOut(before);
        return said.toString().replace(System.lineSeparator(), "\n");
    }

    /** Each call of the face has a row, with as many arguments, and no other call has one. */
    private static void theCalls(List<String> rows) {
        List<String> due = new ArrayList<>();
        due.add("new SeenPages/0");
        for (Method method : SeenPages.class.getMethods()) {
            if (method.getDeclaringClass() == SeenPages.class) {
                due.add(method.getName() + "/" + method.getParameterCount());
            }
        }
        List<String> told = new ArrayList<>();
        for (String row : rows) {
            if (row.endsWith(")")) {
                told.add(counted(row));
            }
        }
        Expect.note("the calls", sorted(due), sorted(told));
    }

    private static String counted(String row) {
        int open = row.indexOf('(');
        String arguments = row.substring(open + 1, row.length() - 1);
        return row.substring(0, open) + "/" + (arguments.isEmpty() ? 0 : arguments.split(", ").length);
    }

    private static void theTests(List<String> rows) {
        List<String> due = new ArrayList<>();
        for (String name : TESTS.list()) {
            if (name.endsWith("Test.java")) {
                due.add(name.replace(".java", ""));
            }
        }
        List<String> told = new ArrayList<>(rows);
        told.removeIf(row -> !row.endsWith("Test"));
        Expect.note("the tests", sorted(due), sorted(told));
    }

    private static String sorted(List<String> texts) {
        String[] sorted = texts.toArray(new String[0]);
        Arrays.sort(sorted);
        return Arrays.toString(sorted);
    }

    private static void theCommands(List<String> commands) {
        Expect.note("all tests are run by a command", "true", String.valueOf(commands.contains(Readme.ALL_TESTS)));
        Expect.note("it can be run", "true", String.valueOf(Files.isExecutable(Path.of(Readme.ALL_TESTS))));
        Expect.note("the tour is run by one", "true", String.valueOf(commands.contains("java -cp out Tour")));
    }
}

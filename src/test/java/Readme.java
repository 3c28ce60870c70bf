import java.io.IOException;
import java.nio.file.Files;
import java.nio.file.Path;
import java.util.ArrayList;
import java.util.List;
import java.util.regex.MatchResult;
import java.util.regex.Pattern;

/** README.md, and what stands in it between fences. */
final class Readme {
    static final String ALL_TESTS = ".ci/run";
    private static final Path FILE = Path.of("README.md");

    private final String text;

    Readme() throws IOException {
        text = Files.readString(FILE);
    }

    /** Tells the commands of the page, but that which runs all tests: it would run itself. */
    public static void main(String[] args) throws IOException {
        for (String command : new Readme().commands()) {
            if (!command.equals(ALL_TESTS)) {
                System.out.println(command);
            }
        }
    }

    List<String> commands() {
        List<String> commands = new ArrayList<>();
        for (String block : blocks("sh")) {
            commands.addAll(block.lines().toList());
        }
        return commands;
    }

    /** What stands between the fences of a kind, block by block. */
    List<String> blocks(String kind) {
        return found("(?s)```" + kind + "\n(.*?)```");
    }

    /** The first cell of each row of the tables, where it is code. */
    List<String> rows() {
        return found("(?m)^\\| `([^`]+)` \\|");
    }

    private List<String> found(String pattern) {
        List<String> found = new ArrayList<>();
        for (MatchResult match : Pattern.compile(pattern).matcher(text).results().toList()) {
            found.add(match.group(1));
        }
        return found;
    }
}

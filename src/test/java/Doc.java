import java.io.IOException;
import java.nio.file.Files;
import java.nio.file.Path;
import java.util.ArrayList;
import java.util.LinkedHashMap;
import java.util.List;
import java.util.Map;

/**
 * The sentences of ../shared/DOC.md, section by section, from its first line on. A test quotes the
 * sentence that it is for; at the end each one has been quoted, but those on what is not promised.
 */
final class Doc {
    private static final Path FILE = Path.of("../shared/DOC.md");
    private static final String NOT_PROMISED = "Not promised";

    /** Each section's text, less what was quoted of it. */
    private final Map<String, String> unquoted = new LinkedHashMap<>();
    private final boolean found;

    Doc() throws IOException {
        found = Files.isReadable(FILE);
        if (found) {
            read(Files.readAllLines(FILE));
        } else {
            System.out.println("no " + FILE + ": the quotes are not compared with it");
        }
    }

    private void read(List<String> lines) {
        String section = "";
        for (String line : lines) {
            if (line.startsWith("#")) {
                section = line.replaceFirst("#+ ", "");
            } else if (!line.startsWith("```")) {
                unquoted.merge(section, line + "\n", String::concat);
            }
        }
    }

    Section section(String name) {
        return new Section(name);
    }

    /** Tells of each sentence that no test is for. */
    void end() {
        List<String> left = new ArrayList<>();
        unquoted.forEach((section, text) -> {
            if (!section.equals(NOT_PROMISED) && !text.isBlank()) {
                left.add(section + ": " + text.strip());
            }
        });
        Expect.about("sentences without a test");
        Expect.note("of the document", "[]", left.toString());
    }

    /** A section, by its heading. */
    final class Section {
        private final String name;

        private Section(String name) {
            this.name = name;
        }

        /** A test for a sentence of the section, which it quotes word by word. */
        void says(String sentence, Runnable test) {
            Expect.about(name + ": " + sentence);
            if (found) {
                String text = unquoted.getOrDefault(name, "");
                int at = text.indexOf(sentence);
                Expect.note("the document", "says so", at < 0 ? "does not say so (again)" : "says so");
                unquoted.put(name, at < 0 ? text : text.substring(0, at) + text.substring(at + sentence.length()));
            }
            int before = Expect.checked();
            Expect.note("the test", "goes to its end", Expect.told(() -> goesToItsEnd(test)));
            Expect.note("the test", "looks at something", Expect.checked() > before + 1 ? "looks at something" : "is empty");
        }

        private String goesToItsEnd(Runnable test) {
            test.run();
            return "goes to its end";
        }

        /** As says, for a sentence that begins with the head of a call: the class has it, exactly so. */
        void saysOfCall(String sentence, Runnable test) {
            says(sentence, () -> {
                String head = sentence.substring(1, sentence.indexOf('`', 1));
                Expect.note("the call", Heads.nameless(head), Heads.ofClass(head));
                test.run();
            });
        }
    }
}

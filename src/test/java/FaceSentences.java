import java.io.IOException;
import java.lang.reflect.Field;
import java.lang.reflect.Method;
import java.lang.reflect.Modifier;
import java.nio.file.Files;
import java.nio.file.Path;

/** What stands ahead of the terms: what the document is about, and the public face. */
final class FaceSentences {
    private static final Path SOURCE = Path.of("src/main/java/SeenPages.java");
    private static final String[] CALLS = {
        "public SeenPages();",
        "public int put(int value) throws IllegalArgumentException, IllegalStateException;",
        "public int take(int place) throws IndexOutOfBoundsException, IllegalStateException;",
        "public int change(int place, int value) throws IndexOutOfBoundsException, IllegalArgumentException, "
            + "IllegalStateException;",
        "public int open(int asker) throws IndexOutOfBoundsException;",
        "public int close(int asker) throws IndexOutOfBoundsException, IllegalStateException;",
        "public int sweep(int page) throws IndexOutOfBoundsException;",
        "public int sweepAll();",
        "public int ask(int asker, int value, int way) throws IndexOutOfBoundsException, IllegalArgumentException, "
            + "IllegalStateException;",
        "public int append(int code) throws IllegalArgumentException, IllegalStateException;",
        "public int clearBuffer();",
        "public int firstError();",
        "public int play() throws IllegalArgumentException;",
        "public int undo() throws IllegalStateException;",
        "public int slot(int place, int what) throws IndexOutOfBoundsException, IllegalArgumentException;",
        "public int page(int page, int what) throws IndexOutOfBoundsException, IllegalArgumentException;",
        "public int asker(int asker, int what) throws IndexOutOfBoundsException, IllegalArgumentException;",
        "public int count(int what) throws IllegalArgumentException;",
        "public int ifAsked(int snapshot, int value, int way, int what) throws IllegalArgumentException;",
        "public int lies(int value) throws IllegalArgumentException;",
        "public int cheapest(int value) throws IllegalArgumentException;",
        "public int holder();",
        "public double marked();",
        "public long digest();",
    };

    private FaceSentences() {
    }

    static void run(Doc doc) throws IOException {
        whatItIs(doc.section("What it is"));
        publicFace(doc.section("The public face"), Files.readString(SOURCE).replaceAll("\\s+", " "));
    }

    private static void whatItIs(Doc.Section it) {
        it.says("Pages known to be seen by all, so that an index alone may answer: a table of pages whose rows have "
            + "versions, changes that are made by askers with snapshots, a map that marks pages whose rows are seen by "
            + "all, sweeps that take old versions away and set marks, changes that clear a mark, an index of values that "
            + "is older than the rows it points to, questions answered by the index alone, by the table, or by a scan, "
            + "answers counted by the way they took, snapshots that hold sweeps back, what an index would tell wrongly "
            + "without marks, the cheapest way, changes as texts with errors by place, and undo.",
            FaceSentences::allOfIt);
        it.says("An object is used for at most 512 calls after it has been made; what later calls answer is free.", () -> {
            manyChanges();
            manyQuestions();
            manySavedStates();
            manyCharacters();
        });
    }

    /** One object, and everything that is named, one behind the other. */
    private static void allOfIt() {
        SeenPages pages = new SeenPages();
        Made.put(pages, 7, 7, 7, 7, 7);
        Expect.same("a map that marks pages", 6, pages.sweepAll());
        pages.open(2);
        Expect.same("the index alone answers", 5, pages.ask(2, 7, 2));
        Expect.same("at no cost", 0, pages.count(10));
        Expect.same("changes", 5, pages.change(4, 3));
        Expect.numbers("clear a mark: page", page -> pages.page(page, 0), 1, 0, 1, 1, 1, 1);
        Expect.same("rows have versions", 2, pages.page(1, 1));
        Expect.same("the index is older than the rows", 2, pages.ifAsked(6, 7, 1, 1));
        Expect.same("what it would tell wrongly", 1, pages.lies(7));
        Expect.same("a snapshot sees what it saw", 5, pages.ask(2, 7, 0));
        Expect.same("and not what came", 0, pages.ask(2, 3, 1));
        Expect.numbers("counted by the way: way", way -> pages.count(6 + way), 1, 1, 1);
        Expect.same("a scan, and a page by the table", 7, pages.count(10));
        Expect.same("a snapshot holds a sweep back", 0, pages.sweep(1));
        Expect.same("that of asker 2", 2, pages.holder());
        pages.close(2);
        Expect.same("sweeps take old versions away", 1, pages.sweep(1));
        Expect.same("and set marks", 6, pages.page(1, 4));
        Expect.same("the cheapest way", 2, pages.cheapest(7));
        Made.type(pages, "+1,-24");
        Expect.same("errors by place", 5, pages.firstError());
        pages.clearBuffer();
        Made.type(pages, "+1,-1");
        Expect.same("changes as texts", 2, pages.play());
        Expect.same("undo", 5, pages.undo());
        Expect.sameDouble("all marks are there again", 1.0, pages.marked());
    }

    private static void manyChanges() {
        SeenPages pages = new SeenPages();
        for (int round = 1; round <= 128; round++) {
            Expect.same("put", 0, pages.put(round % 10));
            Expect.same("take", round % 10, pages.take(0));
            Expect.same("sweep", 1, pages.sweep(0));
            Expect.same("clock, at last in the 512th call", 2 * round, pages.count(0));
        }
    }

    private static void manyQuestions() {
        SeenPages pages = new SeenPages();
        pages.open(3);
        for (int question = 1; question <= 509; question++) {
            Expect.same("ask", 0, pages.ask(3, 0, 0));
        }
        Expect.same("costs", 6 * 509, pages.count(10));
        Expect.same("questions, in the 512th call", 509, pages.asker(3, 2));
    }

    private static void manySavedStates() {
        SeenPages pages = new SeenPages();
        for (int round = 1; round <= 168; round++) {
            pages.put(1);
            pages.take(0);
            pages.sweep(0);
        }
        for (int left = 5; left >= 0; left--) {
            Expect.same("undo", left, pages.undo());
        }
        Expect.throwsState("no seventh", pages::undo);
        Expect.same("clock, in the 512th call", 2 * 166, pages.count(0));
    }

    private static void manyCharacters() {
        SeenPages pages = new SeenPages();
        for (int round = 1; round <= 8; round++) {
            for (int length = 1; length <= 60; length++) {
                Expect.same("append", length, pages.append('x'));
            }
            Expect.throwsState("no 61st", () -> pages.append('x'));
            Expect.same("error", 0, pages.firstError());
            Expect.throwsArgument("play", pages::play);
            Expect.same("clear, at last in the 512th call", 60, pages.clearBuffer());
        }
    }

    private static void publicFace(Doc.Section it, String source) {
        it.says("public final class SeenPages {", () -> {
            Expect.note("the class", "public final", Modifier.toString(SeenPages.class.getModifiers()));
            Expect.note("its name, without a package", "SeenPages", SeenPages.class.getName());
        });
        it.says("public static final int NONE = -1;", () -> {
            Expect.same("NONE", -1, SeenPages.NONE);
            Expect.note("its head", "public static final int", headOfNone());
        });
        for (String call : CALLS) {
            it.says(call, () -> theCall(call.substring("public ".length(), call.length() - 1), source));
        }
        it.says("}", () -> {
            Expect.same("calls, and no others", CALLS.length - 1, visibleMethods());
            Expect.same("constructors", 1, SeenPages.class.getDeclaredConstructors().length);
            Expect.same("visible fields", 1, visibleFields());
        });
    }

    private static String headOfNone() {
        for (Field field : SeenPages.class.getFields()) {
            if (field.getName().equals("NONE")) {
                return Modifier.toString(field.getModifiers()) + " " + field.getType();
            }
        }
        return "none";
    }

    /** The compiled class has no names of arguments: they are looked for in its text. */
    private static void theCall(String head, String source) {
        Expect.note("the call", Heads.nameless(head), Heads.ofClass(head));
        Expect.note("its text", "is there", source.contains(" public " + head + " {") ? "is there" : "is not");
    }

    private static int visibleMethods() {
        int visible = 0;
        for (Method method : SeenPages.class.getDeclaredMethods()) {
            visible += Modifier.isPrivate(method.getModifiers()) ? 0 : 1;
        }
        return visible;
    }

    private static int visibleFields() {
        int visible = 0;
        for (Field field : SeenPages.class.getDeclaredFields()) {
            visible += Modifier.isPrivate(field.getModifiers()) ? 0 : 1;
        }
        return visible;
    }
}

import java.io.IOException;
import java.nio.file.Files;
import java.nio.file.Path;
import java.util.function.Consumer;
import java.util.function.Function;
import java.util.function.Supplier;

/** The terms "Undo" and "Exceptions" with what stands behind them, and the promise 14: undo. */
final class UndoSentences {
    private static final Path SOURCE = Path.of("src/main/java/SeenPages.java");

    private UndoSentences() {
    }

    static void run(Doc doc) {
        undoTerm(doc.section("Undo"));
        exceptions(doc.section("Exceptions"));
        constantsAndOrder(doc.section("Exceptions"));
        undo(doc.section("Promise 14: undo"));
    }

    private static void undoTerm(Doc.Section it) {
        it.says("Each method that is marked \"undoable\" and does not throw an exception saves the state from before it "
            + "(also if it changes nothing): all, also what is counted so far, but the buffer and the saved states.", () -> {
            saves("put", 1, pages -> pages.put(1));
            saves("take", 1, pages -> pages.take(2));
            saves("change", 1, pages -> pages.change(2, 1));
            saves("open", 1, pages -> pages.open(2));
            saves("open, nothing new", 1, pages -> pages.open(0));
            saves("close", 1, pages -> pages.close(2));
            saves("sweep", 1, pages -> pages.sweep(0));
            saves("sweep, nothing new", 1, pages -> pages.sweep(1));
            saves("sweepAll", 1, SeenPages::sweepAll);
            saves("ask", 1, pages -> pages.ask(2, 6, 2));
            saves("play", 1, UndoSentences::playOne);
            saves("play, none made", 1, UndoSentences::playNone);
            saves("append, firstError and clearBuffer", 0, UndoSentences::typing);
            saves("looks", 0, UndoSentences::looking);
            saves("refused calls", 0, UndoSentences::refused);
            bufferStands();
        });
        it.says("At most 6 states are saved; the oldest one is dropped first.", () -> {
            for (int puts = 0; puts <= 20; puts++) {
                sixAtMost(puts);
            }
            sixBehindUndos();
        });
    }

    /** Three states are saved ahead of the call, so that none is dropped. */
    private static SeenPages threeSaved() {
        SeenPages pages = Made.lived();
        for (int undo = 0; undo < 3; undo++) {
            pages.undo();
        }
        return pages;
    }

    private static void saves(String what, int states, Consumer<SeenPages> call) {
        SeenPages pages = threeSaved();
        int before = pages.count(12);
        String seen = Looks.butSaved(pages);
        call.accept(pages);
        Expect.same(what + ": saved states", before + states, pages.count(12));
        for (int undo = 0; undo < states; undo++) {
            pages.undo();
        }
        Expect.note(what + ": undone", seen, Looks.butSaved(pages));
        Expect.same(what + ": the states before", before, pages.count(12));
    }

    private static void playOne(SeenPages pages) {
        pages.clearBuffer();
        Made.type(pages, "+1,-1,~0");
        pages.play();
    }

    private static void playNone(SeenPages pages) {
        pages.clearBuffer();
        Made.type(pages, "-0");
        pages.play();
    }

    private static void typing(SeenPages pages) {
        pages.append('+');
        pages.firstError();
        pages.clearBuffer();
    }

    private static void looking(SeenPages pages) {
        pages.slot(0, 0);
        pages.page(0, 3);
        pages.asker(0, 1);
        pages.count(1);
        pages.ifAsked(0, 0, 2, 0);
        pages.lies(5);
        pages.cheapest(5);
        pages.holder();
        pages.marked();
        pages.digest();
    }

    private static void refused(SeenPages pages) {
        Expect.throwsArgument("put", () -> pages.put(10));
        Expect.throwsState("take", () -> pages.take(0));
        Expect.throwsState("change", () -> pages.change(0, 0));
        Expect.throwsBounds("open", () -> pages.open(4));
        Expect.throwsState("close", () -> pages.close(3));
        Expect.throwsBounds("sweep", () -> pages.sweep(6));
        Expect.throwsState("ask", () -> pages.ask(3, 0, 0));
        Expect.throwsArgument("play", pages::play);
    }

    private static void bufferStands() {
        SeenPages pages = Made.with("+");
        pages.put(7);
        pages.append('8');
        pages.undo();
        Expect.same("what was typed stands, and can be played", 1, pages.play());
        Expect.same("+8", 8, pages.slot(2, 0));
        pages.undo();
        Expect.same("what was played is not typed again", 0, pages.clearBuffer());
    }

    /** Each put is one saved state; what is undone goes back one clock at a time. */
    private static void sixAtMost(int puts) {
        SeenPages pages = new SeenPages();
        for (int put = 1; put <= puts; put++) {
            pages.put(put % 10);
        }
        int saved = Math.min(puts, 6);
        Expect.same("saved of " + puts, saved, pages.count(12));
        for (int undo = 1; undo <= saved; undo++) {
            Expect.same("left", saved - undo, pages.undo());
            Expect.same("clock", puts - undo, pages.count(0));
            Expect.same("the version is away", -1, pages.slot(puts - undo, 0));
        }
        Expect.throwsState("the oldest ones are dropped", pages::undo);
        Expect.same("clock", puts - saved, pages.count(0));
    }

    /** What is saved behind some undos drops the oldest of those that are left, too. */
    private static void sixBehindUndos() {
        SeenPages pages = new SeenPages();
        Made.put(pages, 0, 1, 2, 3, 4, 5, 6, 7);
        for (int undo = 0; undo < 3; undo++) {
            pages.undo();
        }
        Made.put(pages, 9, 8, 7, 6, 5);
        Expect.same("saved", 6, pages.count(12));
        for (int clock = 9; clock >= 4; clock--) {
            pages.undo();
            Expect.same("clock", clock, pages.count(0));
        }
        Expect.throwsState("what is older is dropped", pages::undo);
        Expect.same("the last one that is left", 3, pages.slot(3, 0));
    }

    private static void exceptions(Doc.Section it) {
        it.says("A call that throws an exception changes nothing.", () -> {
            nothingChanges(Made::lived, Expect.ARGUMENT, pages -> pages.put(10), pages -> pages.change(2, 10),
                pages -> pages.ask(0, 10, 0), pages -> pages.ask(0, 0, 3), pages -> pages.append(127), SeenPages::play,
                pages -> pages.slot(0, 4), pages -> pages.page(0, 5), pages -> pages.asker(0, 3), pages -> pages.count(13),
                pages -> pages.ifAsked(9, 0, 0, 0), pages -> pages.lies(10), pages -> pages.cheapest(10));
            nothingChanges(Made::lived, Expect.BOUNDS, pages -> pages.take(24), pages -> pages.change(24, 0),
                pages -> pages.open(4), pages -> pages.close(4), pages -> pages.sweep(6), pages -> pages.ask(4, 0, 0),
                pages -> pages.slot(24, 0), pages -> pages.page(6, 0), pages -> pages.asker(4, 0));
            nothingChanges(Made::lived, Expect.STATE, pages -> pages.take(0), pages -> pages.change(0, 0),
                pages -> pages.close(1), pages -> pages.ask(1, 0, 0));
            nothingChanges(UndoSentences::fullAndTyped, Expect.STATE, pages -> pages.put(0), pages -> pages.change(0, 0),
                pages -> pages.append('+'));
            nothingChanges(Made::empty, Expect.STATE, SeenPages::undo);
        });
        it.says("If several exceptions apply, the one that is named first in the throws clause is thrown.", () -> {
            nothingChanges(UndoSentences::fullAndTyped, Expect.ARGUMENT, pages -> pages.put(10), pages -> pages.put(-1),
                pages -> pages.change(0, 10), pages -> pages.change(0, -1), pages -> pages.append(32),
                pages -> pages.append(127), pages -> pages.ask(0, 10, 0), pages -> pages.ask(0, 0, 3));
            nothingChanges(UndoSentences::fullAndTyped, Expect.BOUNDS, pages -> pages.take(24), pages -> pages.take(-1),
                pages -> pages.change(24, 10), pages -> pages.change(-1, 0), pages -> pages.close(4),
                pages -> pages.ask(4, 10, 3), pages -> pages.ask(-1, 0, 0), pages -> pages.slot(24, 4),
                pages -> pages.slot(-1, -1), pages -> pages.page(6, 5), pages -> pages.page(-1, -1),
                pages -> pages.asker(4, 3), pages -> pages.asker(-1, -1));
            nothingChanges(Made::empty, Expect.ARGUMENT, pages -> pages.change(23, 10), pages -> pages.ask(3, -1, 0));
        });
    }

    /** No slot is empty, no asker is open, and the buffer is full. */
    private static SeenPages fullAndTyped() {
        SeenPages pages = Made.full();
        for (int length = 0; length < 60; length++) {
            pages.append('+');
        }
        return pages;
    }

    @SafeVarargs
    private static void nothingChanges(Supplier<SeenPages> made, String due, Function<SeenPages, Object>... calls) {
        for (int call = 0; call < calls.length; call++) {
            Expect.refuses("call " + call + " of " + due, due, made, calls[call]);
        }
    }

    private static void constantsAndOrder(Doc.Section it) {
        it.says("The constants: `NONE = -1`: There is nothing to return.", () -> {
            Expect.same("NONE", -1, SeenPages.NONE);
            SeenPages pages = new SeenPages();
            Expect.same("slot", SeenPages.NONE, pages.slot(0, 0));
            Expect.same("page", SeenPages.NONE, pages.page(0, 4));
            Expect.same("asker", SeenPages.NONE, pages.asker(0, 0));
            Expect.same("holder", SeenPages.NONE, pages.holder());
        });
        ahead(it, "Ahead of the calls `put`, `take`, `change` the interface says: ---- changes.", "put");
        ahead(it, "Ahead of the calls `open`, `close`, `sweep`, `sweepAll` the interface says: ---- askers, sweeps.", "open");
        ahead(it, "Ahead of the calls `ask` the interface says: ---- answers.", "ask");
        ahead(it, "Ahead of the calls `append`, `clearBuffer`, `firstError`, `play`, `undo` the interface says: ---- texts.",
            "append");
        ahead(it, "Ahead of the calls `slot`, `page`, `asker`, `count` the interface says: ---- looks; nothing is changed or "
            + "counted.", "slot");
        ahead(it, "Ahead of the calls `ifAsked`, `lies`, `cheapest`, `holder`, `marked`, `digest` the interface says: ---- "
            + "what would be; nothing is changed or counted.", "ifAsked");
    }

    /** The class says the same ahead of the first of the calls; and looking changes and counts nothing. */
    private static void ahead(Doc.Section it, String sentence, String first) {
        it.says(sentence, () -> {
            String said = sentence.replaceAll("(?s).*(----.*)\\.", "// $1");
            String source = source();
            int at = source.indexOf(said);
            int call = source.indexOf(" " + first + "(int");
            int before = source.lastIndexOf("// ----", call);
            Expect.same("place of " + said, before, at);
            Expect.same("it is there", 1, at >= 0 ? 1 : 0);
            if (said.endsWith("nothing is changed or counted")) {
                SeenPages pages = Made.lived();
                looking(pages);
                Expect.alike(said, Made.lived(), pages);
            }
        });
    }

    private static String source() {
        try {
            return Files.readString(SOURCE);
        } catch (IOException none) {
            return "";
        }
    }

    private static void undo(Doc.Section it) {
        it.saysOfCall("`int undo() throws IllegalStateException`: Restores the latest saved state, and drops it.", () -> {
            SeenPages pages = Made.few();
            pages.sweepAll();
            pages.open(1);
            pages.undo();
            SeenPages twin = Made.few();
            twin.sweepAll();
            Expect.note("the latest", Looks.butSaved(twin), Looks.butSaved(pages));
            pages.undo();
            Expect.note("the one before", Looks.butSaved(Made.few()), Looks.butSaved(pages));
            Expect.alike("they are dropped", Made.few(), pages);
            SeenPages other = Made.few();
            other.undo();
            Expect.same("an undo is not saved itself", 2, other.count(12));
            other.put(9);
            Expect.same("what comes then is saved", 3, other.count(12));
            other.undo();
            Expect.same("and undone", -1, other.slot(1, 0));
            other.undo();
            Expect.same("then what was before", 1, other.slot(0, 3));
        });
        it.says("Returns how many saved states are left.", () -> {
            SeenPages pages = Made.lived();
            for (int left = 5; left >= 0; left--) {
                Expect.same("left", left, pages.undo());
                Expect.same("count", left, pages.count(12));
            }
        });
        it.says("Throws `IllegalStateException` if there is none", () -> {
            Expect.refuses("a new object", Expect.STATE, Made::empty, SeenPages::undo);
            Expect.refuses("all is undone", Expect.STATE, UndoSentences::allUndone, SeenPages::undo);
            Expect.refuses("typing is not saved", Expect.STATE, UndoSentences::typed, SeenPages::undo);
        });
    }

    private static SeenPages allUndone() {
        SeenPages pages = Made.lived();
        for (int undo = 0; undo < 6; undo++) {
            pages.undo();
        }
        return pages;
    }

    private static SeenPages typed() {
        SeenPages pages = new SeenPages();
        pages.append('+');
        return pages;
    }
}

import java.util.Arrays;

/** The terms "The table" and "Changes". */
final class TableSentences {
    private TableSentences() {
    }

    static void run(Doc doc) {
        terms(doc.section("Terms"));
        table(doc.section("The table"));
        changes(doc.section("Changes"));
    }

    private static void terms(Doc.Section it) {
        it.says("All numbers are integers, but for a share.", () -> {
            for (java.lang.reflect.Method method : SeenPages.class.getMethods()) {
                if (method.getDeclaringClass() != SeenPages.class) {
                    continue;
                }
                String name = method.getName();
                String due = name.equals("marked") ? "double" : name.equals("digest") ? "long" : "int";
                Expect.note(name, due, method.getReturnType().getName());
                boolean whole = Arrays.stream(method.getParameterTypes()).allMatch(type -> type == int.class);
                Expect.same(name + " takes ints alone", 1, whole ? 1 : 0);
            }
        });
    }

    private static void table(Doc.Section it) {
        it.says("There are 6 pages, numbered from 0, with 4 slots each, numbered from 0; a slot is told by its "
            + "place, 4 times its page and its own number together, 0 to 23.", TableSentences::pagesHaveTheirSlots);
        it.says("A slot is empty, or has a version of a row: a value, 0 to 9; the change by which it came; and the "
            + "change by which it went, or none.", TableSentences::slotsAreEmptyOrHaveAVersion);
        it.says("Changes are numbered from 1; the clock is the number of the latest change, 0 at first.",
            TableSentences::changesHaveNumbers);
        it.says("A version is seen by a snapshot t, if the change by which it came is t or less, and it did not go, "
            + "or went by a change greater than t.", TableSentences::versionsAreSeen);
    }

    private static void pagesHaveTheirSlots() {
        for (int page = 0; page < 6; page++) {
            for (int slot = 0; slot < 4; slot++) {
                SeenPages pages = Made.fullAndMarked();
                pages.take(4 * page + slot);
                for (int other = 0; other < 6; other++) {
                    Expect.same("seen of page " + other, other == page ? 3 : 4, pages.page(other, 2));
                    Expect.same("mark of page " + other, other == page ? 0 : 1, pages.page(other, 0));
                }
            }
        }
        SeenPages pages = Made.full();
        Expect.throwsBounds("no page -1", () -> pages.page(-1, 0));
        Expect.throwsBounds("no page 6", () -> pages.page(6, 0));
        Expect.throwsBounds("no place -1", () -> pages.slot(-1, 0));
        Expect.throwsBounds("no place 24", () -> pages.slot(24, 0));
    }

    private static void slotsAreEmptyOrHaveAVersion() {
        SeenPages pages = new SeenPages();
        Expect.numbers("empty", what -> pages.slot(0, what), -1, -1, -1, 0);
        Made.put(pages, 0, 9);
        Expect.numbers("the least value", what -> pages.slot(0, what), 0, 1, 0, 1);
        Expect.numbers("the greatest value", what -> pages.slot(1, what), 9, 2, 0, 1);
        Expect.same("0 is a value", 2, pages.count(2));
        pages.take(0);
        Expect.numbers("gone", what -> pages.slot(0, what), 0, 1, 3, 0);
        Expect.same("gone is not empty", 2, pages.count(2));
        pages.sweep(0);
        Expect.numbers("empty again", what -> pages.slot(0, what), -1, -1, -1, 0);
        Expect.same("one is left", 1, pages.count(2));
    }

    private static void changesHaveNumbers() {
        SeenPages pages = new SeenPages();
        Expect.same("at first", 0, pages.count(0));
        pages.open(0);
        pages.ask(0, 0, 0);
        pages.sweepAll();
        pages.sweep(5);
        pages.close(0);
        Expect.throwsState("nothing to take", () -> pages.take(0));
        Expect.throwsState("nothing to change", () -> pages.change(0, 1));
        Expect.same("no change yet", 0, pages.count(0));
        pages.put(4);
        Expect.same("the first change", 1, pages.slot(0, 1));
        Expect.same("clock", 1, pages.count(0));
        pages.take(0);
        Expect.same("the second change", 2, pages.slot(0, 2));
        pages.sweep(0);
        Expect.same("the latest one's number stays", 2, pages.count(0));
        pages.put(5);
        pages.change(0, 6);
        Expect.same("went by the fourth", 4, pages.slot(0, 2));
        Expect.same("came by the fourth too", 4, pages.slot(1, 1));
        Expect.same("clock", 4, pages.count(0));
    }

    /** A 7 came by 2 and went by 4; an 8 came by 3. */
    private static void versionsAreSeen() {
        SeenPages pages = new SeenPages();
        Made.put(pages, 1, 7, 8);
        Expect.same("seen by the clock", 1, pages.slot(1, 3));
        pages.take(1);
        pages.put(1);
        Expect.same("gone for the clock", 0, pages.slot(1, 3));
        Expect.same("did not go", 1, pages.slot(2, 3));
        for (int way = 0; way < 3; way++) {
            int asked = way;
            Expect.numbers("came by 2, went by 4, snapshot", t -> pages.ifAsked(t, 7, asked, 0), 0, 0, 1, 1, 0, 0);
            Expect.numbers("came by 3, snapshot", t -> pages.ifAsked(t, 8, asked, 0), 0, 0, 0, 1, 1, 1);
        }
    }

    private static void changes(Doc.Section it) {
        it.says("To put a value: if there is an empty slot, the lowest one gets a version with it, that came by a new "
            + "change.", TableSentences::aValueIsPut);
        it.says("To take a version away, that is seen by the clock: it went by a new change.",
            TableSentences::aVersionIsTakenAway);
        it.says("To change a version, that is seen by the clock, to a value: it went by a new change, and the lowest "
            + "empty slot (if there is one) gets a version with the value, that came by the same change.",
            TableSentences::aVersionIsChanged);
        it.says("If there is no empty slot, a value cannot be put, and no version changed.",
            TableSentences::withoutAnEmptySlot);
        it.says("Each change clears the marks of the pages in which it makes versions come or go.",
            TableSentences::changesClearMarks);
        it.says("The index has for each slot that is not empty its value (it does not know by which changes a version "
            + "came or went).", TableSentences::theIndexHasValues);
    }

    private static void aValueIsPut() {
        SeenPages pages = Made.fullBut(23, 13, 7);
        Expect.same("the lowest of three", 7, pages.put(6));
        Expect.numbers("the version", what -> pages.slot(7, what), 6, 28, 0, 1);
        Expect.same("the lower of two", 13, pages.put(6));
        Expect.same("the last one", 23, pages.put(6));
        Expect.numbers("the version", what -> pages.slot(23, what), 6, 30, 0, 1);
        Expect.throwsState("none", () -> pages.put(6));
        Expect.same("the first slot of all", 0, new SeenPages().put(6));
    }

    private static void aVersionIsTakenAway() {
        SeenPages pages = Made.full();
        pages.take(23);
        Expect.numbers("the last place", what -> pages.slot(23, what), 3, 24, 25, 0);
        pages.take(0);
        Expect.numbers("the first place", what -> pages.slot(0, what), 0, 1, 26, 0);
        Expect.throwsState("not seen any more", () -> pages.take(0));
        Expect.numbers("it went once", what -> pages.slot(0, what), 0, 1, 26, 0);
        SeenPages young = new SeenPages();
        young.put(5);
        Expect.same("come by the clock itself", 5, young.take(0));
    }

    private static void aVersionIsChanged() {
        SeenPages pages = Made.fullBut(20, 3);
        Expect.same("the lowest empty slot, below the place", 3, pages.change(10, 6));
        Expect.numbers("the old version", what -> pages.slot(10, what), 0, 11, 27, 0);
        Expect.numbers("the new version", what -> pages.slot(3, what), 6, 27, 0, 1);
        Expect.same("above the place, the last one empty", 20, pages.change(3, 7));
        Expect.numbers("the old version", what -> pages.slot(3, what), 6, 27, 28, 0);
        Expect.numbers("the new version", what -> pages.slot(20, what), 7, 28, 0, 1);
        Expect.same("one change each", 28, pages.count(0));
        SeenPages one = Made.few();
        Expect.throwsState("went", () -> one.change(0, 1));
        Expect.throwsState("empty", () -> one.change(2, 1));
        Expect.same("to its own value", 2, one.change(1, 2));
        Expect.numbers("went all the same", what -> one.slot(1, what), 2, 3, 4, 0);
    }

    private static void withoutAnEmptySlot() {
        SeenPages pages = Made.full();
        Expect.throwsState("put", () -> pages.put(0));
        Expect.throwsState("change", () -> pages.change(23, 0));
        pages.take(5);
        Expect.throwsState("a version that went is not an empty slot: put", () -> pages.put(0));
        Expect.throwsState("a version that went is not an empty slot: change", () -> pages.change(23, 0));
        Expect.same("clock", 25, pages.count(0));
        pages.sweep(1);
        Expect.same("one slot is enough to put", 5, pages.put(0));
        SeenPages other = Made.fullBut(23);
        Expect.same("and to change", 23, other.change(0, 9));
        Expect.throwsState("and then it is full again", () -> other.change(1, 9));
    }

    private static void changesClearMarks() {
        marks("put clears its page's", Made.fullBut(23), pages -> pages.put(1), 1, 1, 1, 1, 1, 0);
        marks("take clears its page's", Made.fullAndMarked(), pages -> pages.take(8), 1, 1, 0, 1, 1, 1);
        marks("change clears that where one goes, and where one comes", Made.fullBut(23), pages -> pages.change(0, 1),
            0, 1, 1, 1, 1, 0);
        marks("change in one page clears one", Made.fullBut(14), pages -> pages.change(15, 1), 1, 1, 1, 0, 1, 1);
        marks("no empty slot: no mark is cleared", Made.fullAndMarked(), pages -> Expect.told(() -> pages.change(0, 1)),
            1, 1, 1, 1, 1, 1);
        marks("open and ask clear none", Made.fullAndMarked(), pages -> {
            pages.open(0);
            pages.ask(0, 1, 2);
            pages.close(0);
        }, 1, 1, 1, 1, 1, 1);
        marks("a text's changes clear theirs", Made.fullBut(22, 23), pages -> {
            Made.type(pages, "+1,-4,8=1");
            pages.play();
        }, 1, 0, 0, 1, 1, 0);
    }

    private static void marks(String what, SeenPages pages, java.util.function.Consumer<SeenPages> call, int... due) {
        call.accept(pages);
        Expect.numbers(what + ": mark of page", page -> pages.page(page, 0), due);
        Expect.numbers(what + ": horizon of page", page -> Math.min(0, pages.page(page, 4)),
            Arrays.stream(due).map(mark -> mark - 1).toArray());
    }

    private static void theIndexHasValues() {
        SeenPages pages = new SeenPages();
        Expect.same("empty slots have none", 0, pages.ifAsked(0, 0, 1, 1));
        Made.put(pages, 4, 4, 4, 4, 4);
        Expect.same("also of a version come behind the snapshot", 2, pages.ifAsked(0, 4, 1, 1));
        Expect.same("though it is not seen", 0, pages.ifAsked(0, 4, 1, 0));
        pages.take(4);
        Expect.same("also of a version that went", 2, pages.ifAsked(6, 4, 1, 1));
        Expect.same("it lies", 1, pages.lies(4));
        pages.change(0, 6);
        Expect.same("a changed version's old value", 2, pages.lies(4));
        Expect.same("and the new one's", 1, pages.ifAsked(7, 6, 1, 1));
        pages.sweepAll();
        Expect.same("swept slots have none", 1, pages.ifAsked(7, 4, 1, 1));
        Expect.same("no lies", 0, pages.lies(4));
    }
}

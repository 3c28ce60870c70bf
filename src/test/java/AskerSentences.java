/** The terms "Askers" and "Sweeps", and the promises 5 to 8: open, close, sweep, sweepAll. */
final class AskerSentences {
    private AskerSentences() {
    }

    static void run(Doc doc) {
        askers(doc.section("Askers"));
        sweeps(doc.section("Sweeps"));
        open(doc.section("Promise 5: open"));
        close(doc.section("Promise 6: close"));
        sweep(doc.section("Promise 7: sweep"));
        sweepAll(doc.section("Promise 8: sweepAll"));
    }

    private static void askers(Doc.Section it) {
        it.says("There are 4 askers, numbered from 0, each with a snapshot, or none, at first none.", () -> {
            SeenPages pages = new SeenPages();
            Expect.numbers("at first: asker", asker -> pages.asker(asker, 0), -1, -1, -1, -1);
            pages.put(1);
            pages.open(3);
            Expect.numbers("the last one opened: asker", asker -> pages.asker(asker, 0), -1, -1, -1, 1);
            pages.put(1);
            pages.open(0);
            Expect.numbers("and the first: asker", asker -> pages.asker(asker, 0), 2, -1, -1, 1);
            pages.close(3);
            Expect.numbers("the last one closed: asker", asker -> pages.asker(asker, 0), 2, -1, -1, -1);
            Expect.throwsBounds("no asker -1", () -> pages.asker(-1, 0));
            Expect.throwsBounds("no asker 4", () -> pages.asker(4, 0));
        });
        it.says("An asker who opens gets the clock as the snapshot.", () -> {
            SeenPages pages = new SeenPages();
            pages.open(1);
            Expect.same("the clock 0", 0, pages.asker(1, 0));
            Expect.same("is a snapshot: what it sees", 0, pages.asker(1, 1));
            pages.put(1);
            Expect.same("a snapshot stands", 0, pages.asker(1, 0));
            Expect.same("and sees what it saw", 0, pages.asker(1, 1));
            pages.open(1);
            Expect.same("the clock 1", 1, pages.asker(1, 0));
            pages.open(2);
            pages.open(2);
            Expect.same("opened twice at once", 1, pages.asker(2, 0));
        });
    }

    private static void sweeps(Doc.Section it) {
        it.says("The horizon is the least snapshot of all askers who have one, and the clock, if none has.",
            AskerSentences::theHorizon);
        it.says("To sweep a page: each version of it that went by a change that is the horizon or less, is taken out "
            + "(its slot is empty then).", AskerSentences::sweepingTakesOut);
        it.says("Then, if each version that is left in the page came by a change that is the horizon or less, and did "
            + "not go, the page is marked by this horizon (also if it is empty, or was marked ahead).",
            AskerSentences::sweepingMarks);
    }

    private static void theHorizon() {
        SeenPages pages = new SeenPages();
        Expect.same("a new object's clock", 0, pages.count(1));
        Made.put(pages, 1, 2);
        Expect.same("the clock, if none has one", 2, pages.count(1));
        pages.open(3);
        pages.put(3);
        Expect.same("the only one", 2, pages.count(1));
        pages.open(0);
        pages.put(4);
        Expect.same("the less of two, of the last asker", 2, pages.count(1));
        pages.open(3);
        Expect.same("the less of two, of the first asker", 3, pages.count(1));
        pages.open(2);
        pages.close(0);
        Expect.same("two alike", 4, pages.count(1));
        pages.close(2);
        pages.put(5);
        Expect.same("one of them is enough", 4, pages.count(1));
        pages.close(3);
        Expect.same("the clock again", 5, pages.count(1));
        SeenPages first = new SeenPages();
        first.open(1);
        first.put(1);
        first.open(0);
        Expect.same("the snapshot 0 is the least of all", 0, first.count(1));
    }

    /** Versions at the places 0 to 3 went by 9, 10, 11, and not at all; one at 4 went by 12. */
    private static SeenPages goneAround(int horizon) {
        SeenPages pages = new SeenPages();
        Made.put(pages, 0, 1, 2, 3, 4, 5, 6, 7);
        for (int place : new int[] {0, 1, 2, 4}) {
            openAt(pages, horizon);
            pages.take(place);
        }
        openAt(pages, horizon);
        return pages;
    }

    private static void openAt(SeenPages pages, int snapshot) {
        if (pages.count(0) == snapshot) {
            pages.open(1);
        }
    }

    private static void sweepingTakesOut() {
        SeenPages pages = goneAround(10);
        Expect.same("by less than the horizon, and by it", 2, pages.sweep(0));
        Expect.numbers("less", what -> pages.slot(0, what), -1, -1, -1, 0);
        Expect.numbers("the horizon itself", what -> pages.slot(1, what), -1, -1, -1, 0);
        Expect.numbers("one more", what -> pages.slot(2, what), 2, 3, 11, 0);
        Expect.numbers("did not go", what -> pages.slot(3, what), 3, 4, 0, 1);
        Expect.numbers("of another page", what -> pages.slot(4, what), 4, 5, 12, 0);
        Expect.same("empty slots", 18, pages.count(4));
        Expect.same("put again", 0, pages.put(9));
        SeenPages none = goneAround(8);
        Expect.same("nobody sees that they went", 0, none.sweep(0));
        SeenPages all = goneAround(12);
        Expect.same("all that went", 3, all.sweep(0));
        Expect.same("of the other page", 1, all.sweep(1));
        SeenPages first = new SeenPages();
        first.open(0);
        first.put(1);
        Expect.same("what did not go stays by the horizon 0", 0, first.sweep(0));
        Expect.same("version", 1, first.slot(0, 0));
    }

    private static void sweepingMarks() {
        SeenPages pages = new SeenPages();
        pages.put(1);
        pages.open(0);
        pages.put(2);
        pages.sweep(0);
        Expect.same("one came by more than the horizon", -1, pages.page(0, 4));
        pages.open(0);
        pages.sweep(0);
        Expect.same("one came by the horizon itself", 2, pages.page(0, 4));
        pages.take(0);
        pages.sweep(0);
        Expect.same("one went, and is left", -1, pages.page(0, 4));
        pages.open(0);
        pages.sweep(0);
        Expect.same("it is taken out ahead of the mark", 3, pages.page(0, 4));
        pages.sweep(5);
        Expect.same("an empty page", 3, pages.page(5, 4));
        pages.put(4);
        pages.open(0);
        pages.sweep(5);
        Expect.same("marked ahead, by the new horizon now", 4, pages.page(5, 4));
        Expect.same("no other page is marked", 1, pages.count(5));
        SeenPages held = Made.fullBut(23);
        held.open(3);
        held.put(1);
        Expect.same("others are marked, by less than the clock", 5, held.sweepAll());
        Expect.numbers("horizon of page", page -> held.page(page, 4), 25, 25, 25, 25, 25, -1);
        SeenPages first = new SeenPages();
        first.sweep(2);
        Expect.numbers("the horizon 0 marks, too", what -> first.page(2, what), 1, 0, 0, 0, 0);
        SeenPages both = Made.few();
        both.open(2);
        both.put(3);
        both.sweep(0);
        Expect.same("one is taken out, one is too young", 0, both.page(0, 0));
        Expect.same("taken out", 1, both.count(11));
    }

    private static void open(Doc.Section it) {
        it.saysOfCall("`int open(int asker) throws IndexOutOfBoundsException`: Opens an asker, or opens it anew.", () -> {
            SeenPages pages = Made.few();
            pages.open(0);
            Expect.numbers("opened", what -> pages.asker(0, what), 3, 1, 0);
            pages.put(5);
            pages.ask(0, 5, 0);
            pages.open(0);
            Expect.numbers("anew, its questions stand", what -> pages.asker(0, what), 4, 2, 1);
        });
        it.says("Undoable.", () -> {
            Expect.undoable("open", Made::few, pages -> pages.open(3));
            Expect.undoable("anew, with nothing new", AskerSentences::justOpened, pages -> pages.open(3));
            Expect.undoable("with six states", Made::lived, pages -> pages.open(3));
        });
        it.says("- `asker`: 0 to 3", () -> Expect.takes(3, Made::few, SeenPages::open, asker -> 3));
        it.says("Returns the snapshot.", () -> {
            SeenPages pages = new SeenPages();
            Expect.same("at the clock 0", 0, pages.open(0));
            pages.put(1);
            Expect.same("anew", 1, pages.open(0));
        });
        it.says("Throws `IndexOutOfBoundsException` if there is no such asker", () ->
            Expect.refusesOutside(3, Expect.BOUNDS, Made::lived, SeenPages::open));
    }

    private static SeenPages justOpened() {
        SeenPages pages = Made.few();
        pages.open(3);
        return pages;
    }

    private static void close(Doc.Section it) {
        it.saysOfCall("`int close(int asker) throws IndexOutOfBoundsException, IllegalStateException`: Closes an asker.", () -> {
            SeenPages pages = Made.lived();
            pages.close(2);
            Expect.numbers("closed", what -> pages.asker(2, what), -1, -1, 1);
            Expect.numbers("the other", what -> pages.asker(0, what), 7, 5, 1);
            Expect.same("the horizon", 7, pages.count(1));
        });
        it.says("Undoable.", () -> {
            Expect.undoable("close", AskerSentences::justOpened, pages -> pages.close(3));
            Expect.undoable("with six states", Made::lived, pages -> pages.close(2));
        });
        it.says("- `asker`: 0 to 3", () -> Expect.takes(3, AskerSentences::allOpen, SeenPages::close, asker -> asker));
        it.says("Returns the snapshot that it had.", () -> {
            SeenPages pages = new SeenPages();
            pages.open(1);
            pages.put(1);
            Expect.same("a snapshot 0 is one", 0, pages.close(1));
            pages.open(1);
            pages.put(1);
            Expect.same("not the clock", 1, pages.close(1));
        });
        it.says("Throws `IndexOutOfBoundsException` if there is no such asker", () ->
            Expect.refusesOutside(3, Expect.BOUNDS, Made::lived, SeenPages::close));
        it.says("Throws `IllegalStateException` if it has none", () -> {
            Expect.refuses("never opened", Expect.STATE, Made::lived, pages -> pages.close(1));
            Expect.refuses("in a new object", Expect.STATE, Made::empty, pages -> pages.close(0));
            SeenPages pages = justOpened();
            pages.close(3);
            Expect.throwsState("closed twice", () -> pages.close(3));
        });
    }

    /** Each asker has its own number as the snapshot. */
    private static SeenPages allOpen() {
        SeenPages pages = new SeenPages();
        for (int asker = 0; asker < 4; asker++) {
            pages.open(asker);
            pages.put(1);
        }
        return pages;
    }

    private static void sweep(Doc.Section it) {
        it.saysOfCall("`int sweep(int page) throws IndexOutOfBoundsException`: Sweeps a page.", () -> {
            SeenPages pages = Made.full();
            pages.take(0);
            pages.take(23);
            pages.sweep(5);
            Expect.same("its version is out", -1, pages.slot(23, 0));
            Expect.same("it is marked", 26, pages.page(5, 4));
            Expect.same("another page's stays", 0, pages.slot(0, 0));
            Expect.same("no other mark", 1, pages.count(5));
            Expect.same("no change", 26, pages.count(0));
        });
        it.says("Undoable.", () -> {
            Expect.undoable("sweep", Made::few, pages -> pages.sweep(0));
            Expect.undoable("a page without versions", Made::few, pages -> pages.sweep(5));
            Expect.undoable("that changes nothing", AskerSentences::sweptBefore, pages -> pages.sweep(0));
            Expect.undoable("the last page", AskerSentences::aTakenOneEach, pages -> pages.sweep(5));
            Expect.undoable("with six states", Made::lived, pages -> pages.sweep(0));
        });
        it.says("- `page`: 0 to 5", () -> Expect.takes(5, AskerSentences::aTakenOneEach, SeenPages::sweep, page -> 1));
        it.says("Returns how many versions are taken out.", () -> {
            SeenPages pages = Made.full();
            for (int place = 4; place < 8; place++) {
                pages.take(place);
            }
            Expect.same("none", 0, pages.sweep(0));
            Expect.same("a whole page", 4, pages.sweep(1));
            Expect.same("none are left", 0, pages.sweep(1));
            Expect.same("an empty table's", 0, new SeenPages().sweep(0));
        });
        it.says("Throws `IndexOutOfBoundsException` if there is no such page", () ->
            Expect.refusesOutside(5, Expect.BOUNDS, Made::lived, SeenPages::sweep));
    }

    private static SeenPages sweptBefore() {
        SeenPages pages = Made.few();
        pages.sweep(0);
        return pages;
    }

    private static SeenPages aTakenOneEach() {
        SeenPages pages = Made.full();
        for (int page = 0; page < 6; page++) {
            pages.take(4 * page + page % 4);
        }
        return pages;
    }

    private static void sweepAll(Doc.Section it) {
        it.saysOfCall("`int sweepAll()`: Sweeps all pages.", () -> {
            SeenPages pages = aTakenOneEach();
            pages.sweepAll();
            Expect.numbers("versions of page", page -> pages.page(page, 1), 3, 3, 3, 3, 3, 3);
            Expect.numbers("horizon of page", page -> pages.page(page, 4), 30, 30, 30, 30, 30, 30);
            Expect.same("taken out", 6, pages.count(11));
        });
        it.says("Undoable, as one call.", () -> {
            Expect.undoable("sweepAll", Made::few, SeenPages::sweepAll);
            Expect.undoable("that changes nothing", AskerSentences::allSweptBefore, SeenPages::sweepAll);
            Expect.undoable("of a full table", AskerSentences::aTakenOneEach, SeenPages::sweepAll);
            Expect.undoable("with six states", Made::lived, SeenPages::sweepAll);
        });
        it.says("Returns how many pages are marked then.", () -> {
            Expect.same("an empty table", 6, new SeenPages().sweepAll());
            SeenPages pages = new SeenPages();
            pages.sweep(5);
            pages.open(0);
            for (int put = 0; put < 20; put++) {
                pages.put(put % 10);
            }
            Expect.same("one alone, marked ahead", 1, pages.sweepAll());
            Made.put(pages, 1);
            Expect.same("none", 0, pages.sweepAll());
            pages.close(0);
            Expect.same("all", 6, pages.sweepAll());
        });
    }

    private static SeenPages allSweptBefore() {
        SeenPages pages = Made.few();
        pages.sweepAll();
        return pages;
    }
}

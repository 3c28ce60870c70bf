/** The promises 15 to 18: slot, page, asker, count. */
final class LookSentences {
    private LookSentences() {
    }

    static void run(Doc doc) {
        slot(doc.section("Promise 15: slot"));
        page(doc.section("Promise 16: page"));
        asker(doc.section("Promise 17: asker"));
        count(doc.section("Promise 18: count"));
    }

    private static void slot(Doc.Section it) {
        it.saysOfCall("`int slot(int place, int what) throws IndexOutOfBoundsException, IllegalArgumentException`: Returns "
            + "something of a slot.", () -> looksChangeNothing(24, 4, SeenPages::slot));
        it.says("- `place`: 0 to 23", () ->
            Expect.takes(23, Made::full, (pages, place) -> pages.slot(place, 1), place -> place + 1));
        it.says("- `what`: 0: its value, NONE if it is empty; 1: the change by which its version came, likewise; 2: the "
            + "change by which it went, 0 if it did not, NONE if the slot is empty; 3: 1 if its version is seen by the clock, "
            + "otherwise 0", () -> {
            SeenPages pages = Made.lived();
            Expect.numbers("went by less than the clock", what -> pages.slot(0, what), 5, 1, 6, 0);
            Expect.numbers("went by the clock", what -> pages.slot(1, what), 6, 2, 8, 0);
            Expect.numbers("did not go", what -> pages.slot(5, what), 5, 7, 0, 1);
            Expect.numbers("came by the clock", what -> pages.slot(6, what), 3, 8, 0, 1);
            Expect.numbers("empty", what -> pages.slot(7, what), -1, -1, -1, 0);
            Expect.numbers("empty, in a marked page", what -> pages.slot(12, what), -1, -1, -1, 0);
        });
        it.says("Returns the number.", () -> {
            Expect.numbers("the value 0", what -> Made.full().slot(0, what), 0, 1, 0, 1);
            Expect.numbers("the value 9", what -> Made.full().slot(19, what), 9, 20, 0, 1);
            Expect.numbers("of a new object", what -> new SeenPages().slot(23, what), -1, -1, -1, 0);
        });
        it.says("Throws `IndexOutOfBoundsException` if there is no such place", () -> {
            Expect.refusesOutside(23, Expect.BOUNDS, Made::lived, (pages, place) -> pages.slot(place, 0));
            Expect.refusesOutside(23, Expect.BOUNDS, Made::lived, (pages, place) -> pages.slot(place, 3));
        });
        it.says("Throws `IllegalArgumentException` if what is not 0 to 3", () -> {
            Expect.refusesOutside(3, Expect.ARGUMENT, Made::lived, (pages, what) -> pages.slot(0, what));
            Expect.refusesOutside(3, Expect.ARGUMENT, Made::empty, (pages, what) -> pages.slot(23, what));
        });
    }

    private static void looksChangeNothing(int first, int second, LookByTwo look) {
        SeenPages pages = Made.lived();
        for (int at = 0; at < first * second; at++) {
            look.number(pages, at / second, at % second);
        }
        Expect.alike("looks change nothing", Made.lived(), pages);
    }

    private interface LookByTwo {
        int number(SeenPages pages, int first, int second);
    }

    private static void page(Doc.Section it) {
        it.saysOfCall("`int page(int page, int what) throws IndexOutOfBoundsException, IllegalArgumentException`: Returns "
            + "something of a page.", () -> looksChangeNothing(6, 5, SeenPages::page));
        it.says("- `page`: 0 to 5", () ->
            Expect.takes(5, LookSentences::stairs, (pages, page) -> 10 * pages.page(page, 1) + pages.page(page, 2),
                page -> page < 5 ? 44 - page : 0));
        it.says("- `what`: 0: 1 if it is marked, otherwise 0; 1: versions in it; 2: those that are seen by the clock; 3: those "
            + "that a sweep would take out now; 4: the horizon by which it was marked, NONE if it is not marked", () -> {
            SeenPages pages = Made.lived();
            Expect.numbers("one went by the horizon, one by more", what -> pages.page(0, what), 0, 4, 2, 1, -1);
            Expect.numbers("none went", what -> pages.page(1, what), 0, 3, 3, 0, -1);
            Expect.numbers("marked by less than the horizon", what -> pages.page(3, what), 1, 0, 0, 0, 5);
            Expect.numbers("empty", what -> pages.page(5, what), 0, 0, 0, 0, -1);
            pages.close(2);
            Expect.numbers("the horizon 7", what -> pages.page(0, what), 0, 4, 2, 1, -1);
            pages.close(0);
            Expect.numbers("the horizon is the clock", what -> pages.page(0, what), 0, 4, 2, 2, -1);
            pages.sweep(0);
            Expect.numbers("swept and marked", what -> pages.page(0, what), 1, 2, 2, 0, 8);
        });
        it.says("Returns the number.", () -> {
            Expect.numbers("full and marked", what -> Made.fullAndMarked().page(5, what), 1, 4, 4, 0, 24);
            Expect.numbers("of a new object", what -> new SeenPages().page(0, what), 0, 0, 0, 0, -1);
            SeenPages pages = new SeenPages();
            pages.sweep(0);
            Expect.numbers("marked by the horizon 0", what -> pages.page(0, what), 1, 0, 0, 0, 0);
            SeenPages gone = Made.full();
            for (int place = 20; place < 24; place++) {
                gone.take(place);
            }
            Expect.numbers("all went", what -> gone.page(5, what), 0, 4, 0, 4, -1);
        });
        it.says("Throws `IndexOutOfBoundsException` if there is no such page", () -> {
            Expect.refusesOutside(5, Expect.BOUNDS, Made::lived, (pages, page) -> pages.page(page, 0));
            Expect.refusesOutside(5, Expect.BOUNDS, Made::lived, (pages, page) -> pages.page(page, 4));
        });
        it.says("Throws `IllegalArgumentException` if what is not 0 to 4", () ->
            Expect.refusesOutside(4, Expect.ARGUMENT, Made::lived, (pages, what) -> pages.page(5, what)));
    }

    /** The pages 0 to 4 have 4 versions each, of which as many as the page's number went; 5 is empty. */
    private static SeenPages stairs() {
        SeenPages pages = new SeenPages();
        for (int place = 0; place < 20; place++) {
            pages.put(place % 10);
        }
        for (int place = 0; place < 20; place++) {
            if (place % 4 < place / 4) {
                pages.take(place);
            }
        }
        return pages;
    }

    private static void asker(Doc.Section it) {
        it.saysOfCall("`int asker(int asker, int what) throws IndexOutOfBoundsException, IllegalArgumentException`: Returns "
            + "something of an asker.", () -> looksChangeNothing(4, 3, SeenPages::asker));
        it.says("- `asker`: 0 to 3", () -> Expect.takes(3, Made::lived,
            (pages, asker) -> pages.asker(asker, 0), asker -> new int[] {7, -1, 6, -1}[asker]));
        it.says("- `what`: 0: the snapshot, NONE without one; 1: versions that it sees, NONE without one; 2: questions asked "
            + "so far", () -> {
            SeenPages pages = Made.lived();
            Expect.numbers("open", what -> pages.asker(2, what), 6, 4, 1);
            Expect.numbers("open later", what -> pages.asker(0, what), 7, 5, 1);
            Expect.numbers("never opened", what -> pages.asker(3, what), -1, -1, 0);
            pages.close(2);
            Expect.numbers("closed", what -> pages.asker(2, what), -1, -1, 1);
            pages.open(2);
            pages.ask(2, 0, 0);
            Expect.numbers("opened again", what -> pages.asker(2, what), 8, 5, 2);
        });
        it.says("Returns the number.", () -> {
            SeenPages pages = new SeenPages();
            pages.open(3);
            pages.put(1);
            Expect.numbers("the snapshot 0 sees none", what -> pages.asker(3, what), 0, 0, 0);
            SeenPages full = Made.full();
            full.open(0);
            Expect.numbers("all are seen", what -> full.asker(0, what), 24, 24, 0);
            full.take(0);
            Expect.numbers("also what went since", what -> full.asker(0, what), 24, 24, 0);
        });
        it.says("Throws `IndexOutOfBoundsException` if there is no such asker", () -> {
            Expect.refusesOutside(3, Expect.BOUNDS, Made::lived, (pages, asker) -> pages.asker(asker, 0));
            Expect.refusesOutside(3, Expect.BOUNDS, Made::empty, (pages, asker) -> pages.asker(asker, 2));
        });
        it.says("Throws `IllegalArgumentException` if what is not 0 to 2", () -> {
            Expect.refusesOutside(2, Expect.ARGUMENT, Made::lived, (pages, what) -> pages.asker(0, what));
            Expect.refusesOutside(2, Expect.ARGUMENT, Made::lived, (pages, what) -> pages.asker(3, what));
        });
    }

    private static void count(Doc.Section it) {
        it.saysOfCall("`int count(int what) throws IllegalArgumentException`: Returns a number.", () ->
            looksChangeNothing(1, 13, (pages, none, what) -> pages.count(what)));
        it.says("- `what`: 0: the clock; 1: the horizon; 2: versions; 3: those that are seen by the clock; 4: empty slots; 5: "
            + "marked pages; 6 to 8: questions asked so far by the ways 0 to 2; 9: those by the way 2 (counted in 8, too) that "
            + "were answered as with 1; 10: the costs of all questions so far; 11: versions taken out so far; 12: saved states",
            LookSentences::counts);
        it.says("Returns the number.", () -> {
            Expect.numbers("of a new object", new SeenPages()::count, 0, 0, 0, 0, 24, 0, 0, 0, 0, 0, 0, 0, 0);
            Expect.numbers("full", Made.full()::count, 24, 24, 24, 24, 0, 0, 0, 0, 0, 0, 0, 0, 6);
            Expect.numbers("full and marked", Made.fullAndMarked()::count, 24, 24, 24, 24, 0, 6, 0, 0, 0, 0, 0, 0, 6);
        });
        it.says("Throws `IllegalArgumentException` if what is not 0 to 12", () -> {
            Expect.refusesOutside(12, Expect.ARGUMENT, Made::lived, SeenPages::count);
            Expect.refusesOutside(12, Expect.ARGUMENT, Made::empty, SeenPages::count);
        });
    }

    private static void counts() {
        SeenPages pages = Made.lived();
        Expect.numbers("lived", pages::count, 8, 6, 7, 5, 17, 1, 0, 1, 1, 0, 3, 0, 6);
        for (int way : new int[] {0, 1, 1, 2, 2, 2, 2}) {
            pages.ask(0, 5, way);
        }
        Expect.numbers("asked", pages::count, 8, 6, 7, 5, 17, 1, 1, 3, 5, 0, 21, 0, 6);
        pages.close(2);
        pages.sweep(0);
        Expect.numbers("swept, the horizon 7", pages::count, 8, 7, 6, 5, 18, 1, 1, 3, 5, 0, 21, 1, 6);
        pages.close(0);
        pages.sweepAll();
        Expect.numbers("all swept", pages::count, 8, 8, 5, 5, 19, 6, 1, 3, 5, 0, 21, 2, 6);
        pages.take(5);
        Expect.numbers("one is left, but not seen", pages::count, 9, 9, 5, 4, 19, 5, 1, 3, 5, 0, 21, 2, 6);
        pages.undo();
        pages.undo();
        Expect.numbers("before the last sweep", pages::count, 8, 8, 6, 5, 18, 1, 1, 3, 5, 0, 21, 1, 4);
        marksTrusted();
    }

    /** No asker can be older than a mark: whoever is open holds the horizon back. */
    private static void marksTrusted() {
        SeenPages pages = new SeenPages();
        Made.put(pages, 1, 1, 1, 1, 1);
        pages.open(1);
        pages.put(1);
        pages.sweepAll();
        pages.ask(1, 1, 2);
        pages.undo();
        pages.undo();
        pages.ask(1, 1, 2);
        Expect.same("by the way 2", 1, pages.count(8));
        Expect.same("answered as with 1", 0, pages.count(9));
        Expect.same("costs without marks", 2, pages.count(10));
        pages.close(1);
        pages.sweepAll();
        pages.open(0);
        pages.ask(0, 1, 2);
        Expect.numbers("with marks", what -> pages.count(8 + what), 2, 0, 2);
    }
}

/** The promises 1 to 4: a new object, put, take, change. */
final class ChangeSentences {
    private ChangeSentences() {
    }

    static void run(Doc doc) {
        newObject(doc.section("Promise 1: A new object"));
        put(doc.section("Promise 2: put"));
        take(doc.section("Promise 3: take"));
        change(doc.section("Promise 4: change"));
        changeRefuses(doc.section("Promise 4: change"));
    }

    private static void newObject(Doc.Section it) {
        it.saysOfCall("`SeenPages()`: Creates an empty table without marks and snapshots, with the clock 0, and an empty buffer.",
            () -> {
                SeenPages used = Made.lived();
                SeenPages pages = new SeenPages();
                Expect.numbers("count", pages::count, 0, 0, 0, 0, 24, 0, 0, 0, 0, 0, 0, 0, 0);
                for (int place = 0; place < 24; place++) {
                    Expect.same("slot " + place, -1, pages.slot(place, 0));
                }
                Expect.numbers("mark of page", page -> pages.page(page, 0), 0, 0, 0, 0, 0, 0);
                Expect.numbers("asker", asker -> pages.asker(asker, 0), -1, -1, -1, -1);
                Expect.same("buffer", 0, pages.clearBuffer());
                Expect.throwsState("nothing to undo", pages::undo);
                Expect.throwsArgument("nothing to play", pages::play);
                Expect.same("the one before is as it was", Made.lived().digest(), used.digest());
            });
    }

    private static void put(Doc.Section it) {
        it.saysOfCall("`int put(int value) throws IllegalArgumentException, IllegalStateException`: Puts a value.", () -> {
            SeenPages pages = Made.lived();
            pages.put(4);
            Expect.numbers("the version", what -> pages.slot(7, what), 4, 9, 0, 1);
            Expect.same("one more", 8, pages.count(2));
        });
        it.says("Undoable.", () -> {
            Expect.undoable("the first", Made::empty, pages -> pages.put(0));
            Expect.undoable("it clears a mark", ChangeSentences::emptyAndMarked, pages -> pages.put(0));
            Expect.undoable("into the last slot", () -> Made.fullBut(23), pages -> pages.put(0));
            Expect.undoable("with six states", Made::lived, pages -> pages.put(9));
        });
        it.says("- `value`: 0 to 9", () -> Expect.takes(9, Made::few,
            (pages, value) -> 100 * pages.put(value) + pages.slot(2, 0), value -> 200 + value));
        it.says("Returns the place of the slot.", () -> {
            SeenPages pages = new SeenPages();
            for (int place = 0; place < 24; place++) {
                Expect.same("one behind the other", place, pages.put(3));
            }
            Expect.same("the only empty one", 17, Made.fullBut(17).put(3));
        });
        it.says("Throws `IllegalArgumentException` if value is out of range", () -> {
            Expect.refusesOutside(9, Expect.ARGUMENT, Made::lived, SeenPages::put);
            Expect.refusesOutside(9, Expect.ARGUMENT, Made::empty, SeenPages::put);
        });
        it.says("Throws `IllegalStateException` if there is no empty slot", () -> {
            Expect.refuses("full", Expect.STATE, Made::full, pages -> pages.put(0));
            Expect.refuses("full and marked", Expect.STATE, Made::fullAndMarked, pages -> pages.put(9));
            Expect.refuses("full of versions that went", Expect.STATE, ChangeSentences::fullOfGone, pages -> pages.put(0));
            Expect.same("one is empty", 23, Made.fullBut(23).put(0));
        });
    }

    private static SeenPages emptyAndMarked() {
        SeenPages pages = new SeenPages();
        pages.sweepAll();
        return pages;
    }

    private static SeenPages fullOfGone() {
        SeenPages pages = Made.full();
        for (int place = 0; place < 24; place++) {
            pages.take(place);
        }
        return pages;
    }

    private static void take(Doc.Section it) {
        it.saysOfCall("`int take(int place) throws IndexOutOfBoundsException, IllegalStateException`: Takes a version "
            + "away.", () -> {
            SeenPages pages = Made.lived();
            pages.take(6);
            Expect.numbers("it went", what -> pages.slot(6, what), 3, 8, 9, 0);
            Expect.same("it is there still", 7, pages.count(2));
            Expect.same("one less is seen", 4, pages.count(3));
        });
        it.says("Undoable.", () -> {
            Expect.undoable("take", Made::few, pages -> pages.take(1));
            Expect.undoable("with six states", Made::lived, pages -> pages.take(2));
            Expect.undoable("it clears a mark", Made::fullAndMarked, pages -> pages.take(23));
        });
        it.says("- `place`: 0 to 23", () ->
            Expect.takes(23, Made::full,
                (pages, place) -> pages.take(place) + 10 * pages.slot(place, 2), place -> 250 + place % 10));
        it.says("Returns its value.", () -> {
            SeenPages pages = new SeenPages();
            Made.put(pages, 9, 0);
            Expect.same("the greatest", 9, pages.take(0));
            Expect.same("the least", 0, pages.take(1));
        });
        it.says("Throws `IndexOutOfBoundsException` if there is no such place", () -> {
            Expect.refusesOutside(23, Expect.BOUNDS, Made::lived, SeenPages::take);
            Expect.refusesOutside(23, Expect.BOUNDS, Made::full, SeenPages::take);
        });
        it.says("Throws `IllegalStateException` if no version there is seen by the clock", () -> {
            Expect.refuses("an empty slot", Expect.STATE, Made::lived, pages -> pages.take(7));
            Expect.refuses("the last one, empty", Expect.STATE, Made::empty, pages -> pages.take(23));
            Expect.refuses("it went by the clock", Expect.STATE, Made::lived, pages -> pages.take(1));
            Expect.refuses("it went long ago", Expect.STATE, Made::lived, pages -> pages.take(0));
            Expect.refuses("a full table's that went", Expect.STATE, ChangeSentences::fullOfGone, pages -> pages.take(0));
        });
    }

    private static void change(Doc.Section it) {
        it.saysOfCall("`int change(int place, int value) throws IndexOutOfBoundsException, IllegalArgumentException, "
            + "IllegalStateException`: Changes a version.", () -> {
            SeenPages pages = Made.lived();
            pages.change(6, 1);
            Expect.numbers("it went", what -> pages.slot(6, what), 3, 8, 9, 0);
            Expect.numbers("and came", what -> pages.slot(7, what), 1, 9, 0, 1);
            Expect.same("one more is there", 8, pages.count(2));
            Expect.same("as many are seen", 5, pages.count(3));
        });
        it.says("Undoable.", () -> {
            Expect.undoable("change", Made::few, pages -> pages.change(1, 5));
            Expect.undoable("with six states", Made::lived, pages -> pages.change(2, 5));
            Expect.undoable("it clears two marks", () -> Made.fullBut(0), pages -> pages.change(23, 5));
            Expect.undoable("into the last slot", () -> Made.fullBut(23), pages -> pages.change(0, 5));
        });
        it.says("- `place`: 0 to 23", () -> Expect.takes(23, () -> Made.fullBut(11),
            (pages, place) -> Expect.told(() -> pages.change(place, 5)), place -> place == 11 ? Expect.STATE : 11));
        it.says("- `value`: 0 to 9", () -> Expect.takes(9, Made::few,
            (pages, value) -> 100 * pages.change(1, value) + pages.slot(2, 0), value -> 200 + value));
        it.says("Returns the place of the new version.", () -> {
            Expect.same("below", 0, Made.fullBut(0).change(23, 1));
            Expect.same("above", 23, Made.fullBut(23).change(0, 1));
            Expect.same("of two the lower", 4, Made.fullBut(5, 4).change(0, 1));
        });
    }

    private static void changeRefuses(Doc.Section it) {
        it.says("Throws `IndexOutOfBoundsException` if there is no such place", () ->
            Expect.refusesOutside(23, Expect.BOUNDS, Made::lived, (pages, place) -> pages.change(place, 0)));
        it.says("Throws `IllegalArgumentException` if value is out of range", () ->
            Expect.refusesOutside(9, Expect.ARGUMENT, Made::lived, (pages, value) -> pages.change(2, value)));
        it.says("Throws `IllegalStateException` if no version there is seen by the clock, or there is no empty slot", () -> {
            Expect.refuses("an empty slot", Expect.STATE, Made::lived, pages -> pages.change(7, 0));
            Expect.refuses("the last one, empty", Expect.STATE, Made::empty, pages -> pages.change(23, 0));
            Expect.refuses("it went by the clock", Expect.STATE, Made::lived, pages -> pages.change(1, 0));
            Expect.refuses("it went long ago", Expect.STATE, Made::lived, pages -> pages.change(0, 0));
            Expect.refuses("no empty slot", Expect.STATE, Made::full, pages -> pages.change(0, 0));
            Expect.refuses("no empty slot, all marked", Expect.STATE, Made::fullAndMarked, pages -> pages.change(23, 9));
            Expect.refuses("neither", Expect.STATE, ChangeSentences::fullOfGone, pages -> pages.change(5, 5));
        });
    }
}

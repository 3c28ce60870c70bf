/** The term "Answers", and the promises 9 and 19 to 21: ask, ifAsked, lies, cheapest. */
final class AnswerSentences {
    private AnswerSentences() {
    }

    static void run(Doc doc) {
        answers(doc.section("Answers"));
        ask(doc.section("Promise 9: ask"));
        askRefuses(doc.section("Promise 9: ask"));
        ifAsked(doc.section("Promise 19: ifAsked"));
        lies(doc.section("Promise 20: lies"));
        cheapest(doc.section("Promise 21: cheapest"));
    }

    private static void answers(Doc.Section it) {
        it.says("How many versions with a value v a snapshot t sees, is asked for in one of three ways:", () -> {
            SeenPages pages = Made.lived();
            for (int way = 0; way < 3; way++) {
                int asked = way;
                Expect.numbers("5, one of which went by 6, one came by 7, snapshot",
                    t -> pages.ifAsked(t, 5, asked, 0), 0, 1, 1, 1, 1, 1, 0, 1, 1);
                Expect.numbers("of asker 2: value", value -> pages.ifAsked(6, value, asked, 0), 0, 0, 0, 0, 0, 0, 1, 1, 1, 1);
            }
            Expect.throwsArgument("no way -1", () -> pages.ifAsked(0, 0, -1, 0));
            Expect.throwsArgument("no way 3", () -> pages.ifAsked(0, 0, 3, 0));
        });
        it.says("0, a scan: all slots of all pages are looked at: the cost is 6 pages.", () -> {
            Expect.same("an empty table", 6, new SeenPages().ifAsked(0, 0, 0, 1));
            Expect.same("a full one", 6, Made.full().ifAsked(24, 9, 0, 1));
            Expect.same("all pages marked", 6, Made.fullAndMarked().ifAsked(24, 9, 0, 1));
            SeenPages pages = Made.fullAndMarked();
            Expect.same("the first and the last slot count", 3, pages.ifAsked(24, 0, 0, 0));
            Expect.same("the first and the last slot count", 3, pages.ifAsked(24, 3, 0, 0));
            pages.take(0);
            pages.take(23);
            Expect.same("but not if they are not seen", 2, pages.ifAsked(26, 0, 0, 0));
            Expect.same("but not if they are not seen", 2, pages.ifAsked(26, 3, 0, 0));
        });
        it.says("1, by the index, with the table: for each slot that the index has with v the version in the table is "
            + "looked at: the cost is the number of pages in which there are such slots.", AnswerSentences::byTheTable);
        it.says("2, by the index with marks: as with 1, but of slots in marked pages the index alone answers: they count "
            + "as seen; the cost is the number of pages without a mark in which there are such slots.",
            AnswerSentences::byMarks);
        it.says("It may be asked only for a snapshot that is the greatest horizon by which one of the pages that are "
            + "marked now was marked, or greater (for any snapshot without marked pages): otherwise marked pages could "
            + "tell too much, and it is answered, and costs, as with 1.", AnswerSentences::oldSnapshots);
    }

    private static void byTheTable() {
        Expect.same("two slots in two pages", 2, Made.full().ifAsked(24, 4, 1, 1));
        Expect.same("an empty table", 0, new SeenPages().ifAsked(0, 7, 1, 1));
        SeenPages pages = Made.fullOf(7);
        Expect.same("all pages, each once", 6, pages.ifAsked(24, 7, 1, 1));
        Expect.same("though a snapshot sees none", 6, pages.ifAsked(0, 7, 1, 1));
        Expect.same("no slots with 0", 0, pages.ifAsked(24, 0, 1, 1));
        pages.sweepAll();
        Expect.same("marks save nothing", 6, pages.ifAsked(24, 7, 1, 1));
        for (int place = 0; place < 4; place++) {
            pages.take(place);
        }
        Expect.same("versions that went are looked at", 6, pages.ifAsked(28, 7, 1, 1));
        Expect.same("and not counted", 20, pages.ifAsked(28, 7, 1, 0));
        pages.sweep(0);
        Expect.same("swept pages are not looked at", 5, pages.ifAsked(28, 7, 1, 1));
        pages.put(8);
        pages.put(7);
        Expect.same("one slot is enough", 6, pages.ifAsked(30, 7, 1, 1));
    }

    private static void byMarks() {
        SeenPages pages = Made.fullOf(7);
        for (int marks = 0; marks <= 6; marks++) {
            Expect.same("cost with marks: " + marks, 6 - marks, pages.ifAsked(24, 7, 2, 1));
            Expect.same("answer with marks: " + marks, 24, pages.ifAsked(24, 7, 2, 0));
            Expect.same("no slots, no cost", 0, pages.ifAsked(24, 8, 2, 1));
            if (marks < 6) {
                pages.sweep(marks);
            }
        }
        pages.take(23);
        Expect.same("a cleared mark costs", 1, pages.ifAsked(25, 7, 2, 1));
        Expect.same("there the table answers", 23, pages.ifAsked(25, 7, 2, 0));
        Expect.same("for the snapshot that is before", 24, pages.ifAsked(24, 7, 2, 0));
        Expect.same("other values' marks save nothing", 0, pages.ifAsked(25, 9, 2, 1));
    }

    /** Pages 0 and 2, not 1, have a 1 each, come by 1 and 9; 0 to 2 are marked by 5, 9 and 10. */
    private static SeenPages markedByThree() {
        SeenPages pages = new SeenPages();
        Made.put(pages, 1, 0, 0, 0, 0);
        pages.sweep(0);
        Made.put(pages, 0, 0, 0, 1);
        pages.sweep(1);
        pages.put(2);
        pages.sweep(2);
        return pages;
    }

    private static void oldSnapshots() {
        SeenPages pages = markedByThree();
        Expect.numbers("marked: page", page -> pages.page(page, 4), 5, 9, 10, -1);
        Expect.numbers("costs as with 1, but by the greatest horizon: snapshot", t -> pages.ifAsked(t, 1, 2, 1),
            2, 2, 2, 2, 2, 2, 2, 2, 2, 2, 0);
        Expect.numbers("answers as with 1: snapshot", t -> pages.ifAsked(t, 1, 2, 0), 0, 1, 1, 1, 1, 1, 1, 1, 1, 2, 2);
        pages.change(9, 2);
        Expect.numbers("a mark cleared counts no more: page", page -> pages.page(page, 4), 5, 9, -1, -1);
        Expect.numbers("by the greatest of those marked now: snapshot", t -> pages.ifAsked(t, 1, 2, 1),
            2, 2, 2, 2, 2, 2, 2, 2, 2, 1, 1, 1);
        Expect.numbers("answers: snapshot", t -> pages.ifAsked(t, 1, 2, 0), 0, 1, 1, 1, 1, 1, 1, 1, 1, 2, 2, 2);
        for (int page = 0; page < 6; page++) {
            SeenPages one = Made.fullOf(1);
            one.sweep(page);
            Expect.same("page " + page + " alone is marked, its horizon: cost", 5, one.ifAsked(24, 1, 2, 1));
            Expect.same("one less: cost", 6, one.ifAsked(23, 1, 2, 1));
            Expect.same("one less: answer", 23, one.ifAsked(23, 1, 2, 0));
        }
        SeenPages without = new SeenPages();
        Made.put(without, 1, 1, 1, 1, 1);
        Expect.numbers("no marks: any snapshot: cost", t -> without.ifAsked(t, 1, 2, 1), 2, 2, 2, 2, 2, 2);
        Expect.numbers("no marks: any snapshot: answer", t -> without.ifAsked(t, 1, 2, 0), 0, 1, 2, 3, 4, 5);
    }

    private static void ask(Doc.Section it) {
        it.saysOfCall("`int ask(int asker, int value, int way) throws IndexOutOfBoundsException, IllegalArgumentException, "
            + "IllegalStateException`: Asks how many versions with a value an asker sees.", () -> {
            SeenPages pages = Made.lived();
            for (int way = 0; way < 3; way++) {
                Expect.same("asker 2 sees what went later", 1, pages.ask(2, 6, way));
                Expect.same("not what came later", 0, pages.ask(2, 3, way));
                Expect.same("not what went by its snapshot", 0, pages.ask(2, 5, way));
                Expect.same("asker 0 sees what came by its snapshot", 1, pages.ask(0, 5, way));
            }
        });
        it.says("It is counted.", AnswerSentences::questionsAreCounted);
        it.says("Undoable.", () -> {
            for (int way = 0; way < 3; way++) {
                int asked = way;
                Expect.undoable("ask in the way " + way, AnswerSentences::opened, pages -> pages.ask(0, 1, asked));
            }
            Expect.undoable("at no cost", AnswerSentences::opened, pages -> pages.ask(0, 9, 1));
            Expect.undoable("with six states", Made::lived, pages -> pages.ask(2, 6, 2));
        });
        it.says("- `asker`: 0 to 3", () ->
            Expect.takes(3, AnswerSentences::allOpen, (pages, asker) -> pages.ask(asker, 7, 0), asker -> asker));
        it.says("- `value`: 0 to 9", () -> Expect.takes(9, AnswerSentences::fullAndOpen,
            (pages, value) -> pages.ask(3, value, 1), value -> value < 4 ? 3 : 2));
        it.says("- `way`: 0 to 2", () -> Expect.takes(2, AnswerSentences::fullAndOpen,
            (pages, way) -> 10 * pages.ask(3, 8, way) + pages.count(6 + way), way -> 21));
        it.says("Returns how many.", () -> {
            SeenPages pages = new SeenPages();
            pages.open(1);
            Expect.same("none", 0, pages.ask(1, 0, 0));
            for (int put = 0; put < 24; put++) {
                pages.put(9);
            }
            Expect.same("none yet", 0, pages.ask(1, 9, 0));
            pages.open(1);
            for (int way = 0; way < 3; way++) {
                Expect.same("a full table", 24, pages.ask(1, 9, way));
            }
        });
    }

    private static void askRefuses(Doc.Section it) {
        it.says("Throws `IndexOutOfBoundsException` if there is no such asker", () ->
            Expect.refusesOutside(3, Expect.BOUNDS, Made::lived, (pages, asker) -> pages.ask(asker, 0, 0)));
        it.says("Throws `IllegalArgumentException` if value or way is out of range", () -> {
            Expect.refusesOutside(9, Expect.ARGUMENT, Made::lived, (pages, value) -> pages.ask(0, value, 0));
            Expect.refusesOutside(2, Expect.ARGUMENT, Made::lived, (pages, way) -> pages.ask(0, 0, way));
        });
        it.says("Throws `IllegalStateException` if the asker has no snapshot", () -> {
            Expect.refuses("never opened", Expect.STATE, Made::lived, pages -> pages.ask(3, 0, 0));
            Expect.refuses("closed", Expect.STATE, AnswerSentences::closed, pages -> pages.ask(2, 0, 2));
            Expect.refuses("in a new object", Expect.STATE, Made::empty, pages -> pages.ask(0, 9, 1));
        });
    }

    private static SeenPages closed() {
        SeenPages pages = Made.lived();
        pages.close(2);
        return pages;
    }

    private static SeenPages opened() {
        SeenPages pages = Made.few();
        pages.open(0);
        return pages;
    }

    private static SeenPages fullAndOpen() {
        SeenPages pages = Made.full();
        pages.open(3);
        return pages;
    }

    /** Each asker sees as many versions with 7 as its own number. */
    private static SeenPages allOpen() {
        SeenPages pages = new SeenPages();
        for (int asker = 0; asker < 4; asker++) {
            pages.open(asker);
            pages.put(7);
        }
        return pages;
    }

    private static void questionsAreCounted() {
        SeenPages pages = Made.lived();
        Expect.numbers("before", way -> pages.count(6 + way), 0, 1, 1, 0, 3);
        pages.ask(2, 5, 0);
        Expect.numbers("a scan costs 6", way -> pages.count(6 + way), 1, 1, 1, 0, 9);
        pages.ask(2, 5, 1);
        Expect.numbers("by the table two pages", way -> pages.count(6 + way), 1, 2, 1, 0, 11);
        pages.ask(0, 6, 2);
        Expect.numbers("by marks one", way -> pages.count(6 + way), 1, 2, 2, 0, 12);
        pages.ask(0, 0, 2);
        Expect.numbers("at no cost", way -> pages.count(6 + way), 1, 2, 3, 0, 12);
        Expect.numbers("the askers' own", asker -> pages.asker(asker, 2), 3, 0, 3, 0);
        Expect.throwsState("a refused one", () -> pages.ask(1, 0, 0));
        Expect.throwsArgument("a refused one", () -> pages.ask(0, 0, 3));
        Expect.numbers("is not counted", way -> pages.count(6 + way), 1, 2, 3, 0, 12);
        Expect.numbers("nor for an asker", asker -> pages.asker(asker, 2), 3, 0, 3, 0);
    }

    private static void ifAsked(Doc.Section it) {
        it.saysOfCall("`int ifAsked(int snapshot, int value, int way, int what) throws IllegalArgumentException`: Tells what an "
            + "answer would be, or cost, for any snapshot.", () -> {
            SeenPages pages = Made.lived();
            long before = pages.digest();
            Expect.numbers("answer: snapshot", t -> pages.ifAsked(t, 6, 1, 0), 0, 0, 1, 1, 1, 1, 1, 1, 0);
            Expect.numbers("cost: snapshot", t -> pages.ifAsked(t, 5, 2, 1), 2, 2, 2, 2, 2, 2, 2, 2, 2);
            Expect.same("nothing is counted", before, pages.digest());
            Expect.same("without an open asker", 1, Made.few().ifAsked(3, 2, 0, 0));
        });
        it.says("- `snapshot`: 0 to the clock", () -> {
            Expect.same("the clock 0", 0, new SeenPages().ifAsked(0, 0, 0, 0));
            Expect.takes(8, Made::lived, (pages, t) -> pages.ifAsked(t, 9, 0, 0), t -> t < 5 ? 0 : 1);
        });
        it.says("- `value`: 0 to 9", () -> Expect.takes(9, Made::full,
            (pages, value) -> pages.ifAsked(24, value, 0, 0), value -> value < 4 ? 3 : 2));
        it.says("- `way`: 0 to 2", () -> Expect.takes(2, Made::lived,
            (pages, way) -> pages.ifAsked(8, 9, way, 1), way -> way == 0 ? 6 : 1));
        it.says("- `what`: 0: the answer; 1: the cost", () -> Expect.takes(1, Made::lived,
            (pages, what) -> pages.ifAsked(8, 5, 1, what), what -> what == 0 ? 1 : 2));
        it.says("Returns the number.", () -> {
            Expect.numbers("an empty table", what -> new SeenPages().ifAsked(0, 9, 2, what), 0, 0);
            Expect.numbers("a full one", what -> Made.full().ifAsked(24, 0, 1, what), 3, 3);
            Expect.numbers("all marked", what -> Made.fullAndMarked().ifAsked(24, 0, 2, what), 3, 0);
        });
        it.says("Throws `IllegalArgumentException` if an argument is out of range", () -> {
            Expect.refusesOutside(8, Expect.ARGUMENT, Made::lived, (pages, t) -> pages.ifAsked(t, 0, 0, 0));
            Expect.refusesOutside(0, Expect.ARGUMENT, Made::empty, (pages, t) -> pages.ifAsked(t, 0, 2, 1));
            Expect.refusesOutside(9, Expect.ARGUMENT, Made::lived, (pages, value) -> pages.ifAsked(0, value, 0, 0));
            Expect.refusesOutside(2, Expect.ARGUMENT, Made::lived, (pages, way) -> pages.ifAsked(0, 0, way, 0));
            Expect.refusesOutside(1, Expect.ARGUMENT, Made::lived, (pages, what) -> pages.ifAsked(0, 0, 0, what));
        });
    }

    private static void lies(Doc.Section it) {
        it.saysOfCall("`int lies(int value) throws IllegalArgumentException`: Tells how much an index alone would tell wrongly, "
            + "without the table and without marks: the slots that the index has with a value, less those versions that "
            + "the clock sees.", () -> {
            SeenPages pages = Made.lived();
            long before = pages.digest();
            Expect.numbers("one 5 and the 6 went: value", pages::lies, 0, 0, 0, 0, 0, 1, 1, 0, 0, 0);
            Expect.same("nothing is counted", before, pages.digest());
            pages.sweep(0);
            Expect.numbers("the 5 is out, the 6 held back: value", pages::lies, 0, 0, 0, 0, 0, 0, 1, 0, 0, 0);
        });
        it.says("- `value`: 0 to 9", () -> Expect.takes(9, AnswerSentences::aZeroAndANineGone, SeenPages::lies,
            value -> value == 0 || value == 9 ? 1 : 0));
        it.says("Returns the difference.", () -> {
            Expect.same("no slots", 0, new SeenPages().lies(0));
            Expect.same("all are seen", 0, Made.full().lies(9));
            SeenPages pages = Made.fullOf(9);
            for (int place = 0; place < 24; place++) {
                pages.take(place);
            }
            Expect.same("none is seen", 24, pages.lies(9));
            pages.sweep(5);
            Expect.same("nor of other pages", 20, pages.lies(9));
        });
        it.says("Throws `IllegalArgumentException` if value is out of range", () ->
            Expect.refusesOutside(9, Expect.ARGUMENT, Made::lived, SeenPages::lies));
    }

    private static SeenPages aZeroAndANineGone() {
        SeenPages pages = Made.full();
        pages.take(20);
        pages.take(9);
        return pages;
    }

    private static void cheapest(Doc.Section it) {
        it.saysOfCall("`int cheapest(int value) throws IllegalArgumentException`: Finds the cheapest way for the clock.", () -> {
            SeenPages pages = Made.fullAndMarked();
            long before = pages.digest();
            Expect.same("by marks at no cost, by the table 3, by a scan 6", 2, pages.cheapest(1));
            Expect.same("nothing is counted", before, pages.digest());
            pages.take(1);
            Expect.same("by marks one page", 2, pages.cheapest(1));
        });
        it.says("- `value`: 0 to 9", () -> Expect.takes(9, Made::lived, SeenPages::cheapest, value -> 2));
        it.says("Returns the way with the least cost, of several the greatest number.", () -> {
            Expect.same("1 and 2 cost nothing", 2, new SeenPages().cheapest(0));
            SeenPages pages = Made.fullOf(1);
            Expect.same("all three cost 6", 2, pages.cheapest(1));
            Expect.same("1 and 2 cost nothing", 2, pages.cheapest(2));
            pages.sweep(0);
            Expect.same("2 costs 5", 2, pages.cheapest(1));
        });
        it.says("Throws `IllegalArgumentException` if value is out of range", () ->
            Expect.refusesOutside(9, Expect.ARGUMENT, Made::lived, SeenPages::cheapest));
    }
}

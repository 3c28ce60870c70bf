/** Promises 1 to 4: a new object, put, take, change. */
public final class ChangesTest {
    public static void main(String[] args) {
        newObject();
        putTakesTheLowestEmptySlot();
        putRefuses();
        takeMarksTheVersionAsGone();
        takeRefuses();
        changeMakesOneGoAndOneCome();
        changeRefuses();
        changesClearMarks();
        Expect.end();
    }

    private static void newObject() {
        SeenPages pages = new SeenPages();
        for (int place = 0; place < 24; place++) {
            Expect.same("new slot value", -1, pages.slot(place, 0));
        }
        for (int page = 0; page < 6; page++) {
            Expect.same("new page mark", 0, pages.page(page, 0));
        }
        for (int asker = 0; asker < 4; asker++) {
            Expect.same("new asker", -1, pages.asker(asker, 0));
        }
        for (int what = 0; what < 13; what++) {
            Expect.same("new count " + what, what == 4 ? 24 : 0, pages.count(what));
        }
        Expect.same("new buffer", 0, pages.clearBuffer());
        Expect.same("NONE", -1, SeenPages.NONE);
    }

    private static void putTakesTheLowestEmptySlot() {
        SeenPages pages = new SeenPages();
        Expect.same("put(9)", 0, pages.put(9));
        Expect.same("put(0)", 1, pages.put(0));
        Expect.same("value", 9, pages.slot(0, 0));
        Expect.same("came", 2, pages.slot(1, 1));
        Expect.same("went", 0, pages.slot(1, 2));
        Expect.same("clock", 2, pages.count(0));
        pages.take(0);
        Expect.same("a slot with a version that went is not empty", 2, pages.put(4));
        pages.sweep(0);
        Expect.same("a swept slot is", 0, pages.put(5));
        Expect.same("came anew", 5, pages.slot(0, 1));
    }

    private static void putRefuses() {
        SeenPages pages = Made.full();
        long before = pages.digest();
        Expect.throwsState("put into a full table", () -> pages.put(0));
        Expect.throwsArgument("value before state", () -> pages.put(10));
        Expect.throwsArgument("put(-1)", () -> pages.put(-1));
        Expect.throwsArgument("put least", () -> pages.put(Integer.MIN_VALUE));
        Expect.throwsArgument("put greatest", () -> pages.put(Integer.MAX_VALUE));
        Expect.same("nothing is changed", before, pages.digest());
    }

    private static void takeMarksTheVersionAsGone() {
        SeenPages pages = Made.full();
        Expect.same("take(23)", 3, pages.take(23));
        Expect.same("went", 25, pages.slot(23, 2));
        Expect.same("value stays", 3, pages.slot(23, 0));
        Expect.same("came stays", 24, pages.slot(23, 1));
        Expect.same("take(0)", 0, pages.take(0));
        Expect.same("went", 26, pages.slot(0, 2));
        Expect.same("versions", 24, pages.count(2));
        Expect.same("seen", 22, pages.count(3));
    }

    private static void takeRefuses() {
        SeenPages pages = new SeenPages();
        pages.put(1);
        pages.take(0);
        long before = pages.digest();
        Expect.throwsBounds("take(-1)", () -> pages.take(-1));
        Expect.throwsBounds("take(24)", () -> pages.take(24));
        Expect.throwsState("take what went", () -> pages.take(0));
        Expect.throwsState("take from an empty slot", () -> pages.take(1));
        Expect.same("nothing is changed", before, pages.digest());
    }

    private static void changeMakesOneGoAndOneCome() {
        SeenPages pages = new SeenPages();
        Made.put(pages, 1, 2, 3, 4);
        Expect.same("change(1, 9)", 4, pages.change(1, 9));
        Expect.same("one change", 5, pages.count(0));
        Expect.same("old value", 2, pages.slot(1, 0));
        Expect.same("old went", 5, pages.slot(1, 2));
        Expect.same("new came", 5, pages.slot(4, 1));
        Expect.same("new value", 9, pages.slot(4, 0));
        Expect.same("to the same value", 5, pages.change(4, 9));
        Expect.same("that is a change too", 6, pages.slot(4, 2));
    }

    private static void changeRefuses() {
        SeenPages pages = Made.full();
        long before = pages.digest();
        Expect.throwsBounds("place first", () -> pages.change(24, 10));
        Expect.throwsBounds("change(-1, 0)", () -> pages.change(-1, 0));
        Expect.throwsArgument("value before state", () -> pages.change(0, 10));
        Expect.throwsArgument("change(0, -1)", () -> pages.change(0, -1));
        Expect.throwsState("no empty slot", () -> pages.change(0, 0));
        Expect.same("nothing is changed", before, pages.digest());
        pages.take(0);
        Expect.throwsState("what went leaves no empty slot", () -> pages.change(1, 0));
        SeenPages few = new SeenPages();
        few.put(1);
        few.take(0);
        Expect.throwsState("change what went", () -> few.change(0, 1));
        Expect.throwsState("change an empty slot", () -> few.change(1, 1));
        Expect.same("clock", 2, few.count(0));
    }

    private static void changesClearMarks() {
        SeenPages pages = new SeenPages();
        pages.sweepAll();
        pages.put(1);
        Expect.same("put clears", 0, pages.page(0, 0));
        Expect.same("its own page's alone", 5, pages.count(5));
        Made.put(pages, 2, 3, 4);
        pages.sweepAll();
        pages.take(3);
        Expect.same("take clears", 0, pages.page(0, 0));
        Expect.same("its own page's alone", 5, pages.count(5));
        pages.put(5);
        pages.sweepAll();
        pages.put(6);
        pages.sweepAll();
        Expect.same("all marked", 6, pages.count(5));
        Expect.same("from page 1 into page 1", 5, pages.change(4, 7));
        Expect.same("clears one mark", 5, pages.count(5));
        Expect.same("from page 0 into page 1", 6, pages.change(0, 8));
        Expect.same("clears both", 0, pages.page(0, 0) + pages.page(1, 0));
        Expect.same("and no other", 4, pages.count(5));
    }
}

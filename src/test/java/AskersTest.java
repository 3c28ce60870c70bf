/** Promises 5 to 8: open, close, sweep, sweepAll. */
public final class AskersTest {
    public static void main(String[] args) {
        openGivesTheClock();
        openRefuses();
        closeTakesTheSnapshot();
        closeRefuses();
        theHorizonIsTheLeastSnapshot();
        sweepTakesOutWhatNobodySees();
        sweepMarksWhatAllSee();
        sweepRefuses();
        sweepAllSweepsEachPage();
        Expect.end();
    }

    private static void openGivesTheClock() {
        SeenPages pages = new SeenPages();
        Expect.same("open at 0", 0, pages.open(0));
        Made.put(pages, 1, 2);
        Expect.same("open at 2", 2, pages.open(3));
        Expect.same("open anew", 2, pages.open(0));
        Expect.same("snapshot", 2, pages.asker(0, 0));
        Expect.same("each is saved", 5, pages.count(12));
        Expect.same("the clock stands", 2, pages.count(0));
    }

    private static void openRefuses() {
        SeenPages pages = new SeenPages();
        Expect.throwsBounds("open(4)", () -> pages.open(4));
        Expect.throwsBounds("open(-1)", () -> pages.open(-1));
        Expect.same("nothing is saved", 0, pages.count(12));
    }

    private static void closeTakesTheSnapshot() {
        SeenPages pages = new SeenPages();
        pages.put(1);
        pages.open(2);
        pages.put(1);
        Expect.same("close", 1, pages.close(2));
        Expect.same("no snapshot", -1, pages.asker(2, 0));
        Expect.same("saved", 4, pages.count(12));
        pages.open(0);
        Expect.same("close(0)", 2, pages.close(0));
    }

    private static void closeRefuses() {
        SeenPages pages = new SeenPages();
        Expect.throwsBounds("close(4)", () -> pages.close(4));
        Expect.throwsBounds("close(-1)", () -> pages.close(-1));
        Expect.throwsState("never opened", () -> pages.close(0));
        pages.open(0);
        Expect.same("a snapshot of 0 is one", 0, pages.close(0));
        Expect.throwsState("closed twice", () -> pages.close(0));
        Expect.same("two saved", 2, pages.count(12));
    }

    private static void theHorizonIsTheLeastSnapshot() {
        SeenPages pages = new SeenPages();
        pages.put(1);
        Expect.same("the clock", 1, pages.count(1));
        pages.open(1);
        pages.put(1);
        pages.open(0);
        pages.put(1);
        Expect.same("the least", 1, pages.count(1));
        pages.open(1);
        Expect.same("the other now", 2, pages.count(1));
        pages.close(0);
        pages.put(1);
        Expect.same("the last one", 3, pages.count(1));
        pages.close(1);
        Expect.same("the clock again", 4, pages.count(1));
    }

    private static void sweepTakesOutWhatNobodySees() {
        SeenPages pages = new SeenPages();
        Made.put(pages, 1, 2, 3);
        pages.take(0);
        pages.open(0);
        pages.take(1);
        pages.open(1);
        Expect.same("went by the horizon itself", 1, pages.sweep(0));
        Expect.same("slot 0", -1, pages.slot(0, 0));
        Expect.same("no change any more", -1, pages.slot(0, 1) + pages.slot(0, 2) + 1);
        Expect.same("held back", 2, pages.slot(1, 0));
        Expect.same("no mark: one went", 0, pages.page(0, 0));
        pages.close(0);
        Expect.same("nobody holds it", 1, pages.sweep(0));
        Expect.same("marked", 1, pages.page(0, 0));
        Expect.same("by the horizon", 5, pages.page(0, 4));
        Expect.same("taken out so far", 2, pages.count(11));
        Expect.same("nothing left to do", 0, pages.sweep(0));
    }

    private static void sweepMarksWhatAllSee() {
        SeenPages pages = new SeenPages();
        pages.open(0);
        pages.put(1);
        Expect.same("came behind the horizon", 0, pages.sweep(0));
        Expect.same("no mark", 0, pages.page(0, 0));
        Expect.same("an empty page", 0, pages.sweep(1));
        Expect.same("is marked", 1, pages.page(1, 0));
        Expect.same("by horizon 0", 0, pages.page(1, 4));
        Expect.same("no mark has NONE", -1, pages.page(0, 4));
        pages.open(0);
        pages.sweep(0);
        Expect.same("came by the horizon itself", 1, pages.page(0, 4));
        pages.put(2);
        pages.open(0);
        pages.sweep(1);
        Expect.same("marked again by the new horizon", 2, pages.page(1, 4));
        Expect.same("put took the mark of page 0", 0, pages.page(0, 0));
    }

    private static void sweepRefuses() {
        SeenPages pages = new SeenPages();
        Expect.throwsBounds("sweep(6)", () -> pages.sweep(6));
        Expect.throwsBounds("sweep(-1)", () -> pages.sweep(-1));
        Expect.same("nothing is marked", 0, pages.count(5));
        Expect.same("nothing is saved", 0, pages.count(12));
        pages.sweep(5);
        Expect.same("saved", 1, pages.count(12));
    }

    private static void sweepAllSweepsEachPage() {
        SeenPages pages = Made.full();
        pages.take(0);
        pages.take(23);
        pages.open(2);
        pages.take(11);
        Expect.same("all but page 2", 5, pages.sweepAll());
        Expect.same("taken out", 2, pages.count(11));
        Expect.same("marks", 5, pages.count(5));
        pages.close(2);
        Expect.same("all", 6, pages.sweepAll());
        Expect.same("taken out", 3, pages.count(11));
        pages.undo();
        Expect.same("undone as one call", 5, pages.count(5));
        Expect.same("its counts too", 2, pages.count(11));
        SeenPages other = new SeenPages();
        other.open(0);
        other.sweep(3);
        other.put(1);
        Expect.same("a mark from ahead counts", 5, other.sweepAll());
    }
}

/** Promise 14: undo. */
public final class UndoTest {
    public static void main(String[] args) {
        nothingToUndo();
        sixAreSaved();
        changesAreSaved();
        eachUndoableCallIsSaved();
        othersAreNotSaved();
        allIsRestored();
        whatComesBehindAnUndo();
        Expect.end();
    }

    private static void nothingToUndo() {
        SeenPages pages = new SeenPages();
        Expect.throwsState("a new object", () -> pages.undo());
        pages.put(1);
        Expect.same("none is left", 0, pages.undo());
        Expect.throwsState("behind the last", () -> pages.undo());
    }

    private static void sixAreSaved() {
        SeenPages pages = new SeenPages();
        for (int put = 0; put < 9; put++) {
            pages.put(put);
            Expect.same("saved", Math.min(put + 1, 6), pages.count(12));
        }
        for (int left = 5; left >= 0; left--) {
            Expect.same("left", left, pages.undo());
            Expect.same("clock", left + 3, pages.count(0));
            Expect.same("count", left, pages.count(12));
        }
        Expect.throwsState("the oldest three are dropped", () -> pages.undo());
        Expect.same("clock", 3, pages.count(0));
    }

    private static void changesAreSaved() {
        SeenPages pages = new SeenPages();
        pages.put(7);
        pages.change(0, 8);
        pages.take(1);
        Expect.same("three", 3, pages.count(12));
        Expect.same("undo of take", 2, pages.undo());
        Expect.same("8 is seen", 1, pages.slot(1, 3));
        Expect.same("undo of change", 1, pages.undo());
        Expect.same("7 is seen", 1, pages.slot(0, 3));
        Expect.same("8 is away", -1, pages.slot(1, 0));
        Expect.same("undo of put", 0, pages.undo());
        Expect.same("7 is away", -1, pages.slot(0, 0));
    }

    private static void eachUndoableCallIsSaved() {
        SeenPages pages = new SeenPages();
        pages.sweepAll();
        pages.sweep(0);
        pages.open(0);
        pages.open(0);
        pages.ask(0, 0, 0);
        pages.close(0);
        Expect.same("six, though most change nothing", 6, pages.count(12));
        Expect.same("undo of close", 5, pages.undo());
        Expect.same("snapshot", 0, pages.asker(0, 0));
        Expect.same("undo of ask", 4, pages.undo());
        Expect.same("not asked", 0, pages.asker(0, 2));
        Expect.same("undo of open", 3, pages.undo());
        Expect.same("open from ahead", 0, pages.asker(0, 0));
        Expect.same("undo of open", 2, pages.undo());
        Expect.same("no snapshot", -1, pages.asker(0, 0));
        Expect.same("undo of sweep", 1, pages.undo());
        Expect.same("marked from ahead", 6, pages.count(5));
        Expect.same("undo of sweepAll", 0, pages.undo());
        Expect.same("no marks", 0, pages.count(5));
    }

    private static void othersAreNotSaved() {
        SeenPages pages = new SeenPages();
        pages.append('+');
        pages.firstError();
        pages.slot(0, 0);
        pages.page(0, 0);
        pages.asker(0, 0);
        pages.count(0);
        pages.ifAsked(0, 0, 0, 0);
        pages.lies(0);
        pages.cheapest(0);
        pages.holder();
        pages.marked();
        pages.digest();
        pages.clearBuffer();
        Expect.told(() -> pages.take(0));
        Expect.told(() -> pages.play());
        Expect.same("none", 0, pages.count(12));
    }

    private static void allIsRestored() {
        SeenPages pages = new SeenPages();
        Made.put(pages, 1, 2, 3, 1, 2, 3, 1);
        pages.open(1);
        pages.take(2);
        pages.sweepAll();
        pages.ask(1, 2, 2);
        pages.undo();
        pages.undo();
        long[] digests = new long[7];
        digests[0] = pages.digest();
        pages.close(1);
        digests[1] = pages.digest();
        pages.sweepAll();
        digests[2] = pages.digest();
        Expect.same("saved", 6, pages.count(12));
        Expect.same("undo", 5, pages.undo());
        Expect.same("undo", 4, pages.undo());
        Expect.same("taken out", 0, pages.count(11));
        Expect.same("marks", 0, pages.count(5));
        Expect.same("snapshot", 7, pages.asker(1, 0));
        Expect.same("digest", digests[0], pages.digest());
        pages.close(1);
        Expect.same("digest again", digests[1], pages.digest());
        pages.sweepAll();
        Expect.same("digest again", digests[2], pages.digest());
    }

    private static void whatComesBehindAnUndo() {
        SeenPages pages = new SeenPages();
        Made.put(pages, 1, 2, 3, 4, 5, 6, 7, 8);
        pages.undo();
        pages.undo();
        Expect.same("clock", 6, pages.count(0));
        Expect.same("put again", 6, pages.put(9));
        Expect.same("value", 9, pages.slot(6, 0));
        Expect.same("came", 7, pages.slot(6, 1));
        Expect.same("no 8 is left", -1, pages.slot(7, 0));
        Expect.same("undo", 4, pages.undo());
        Expect.same("clock", 6, pages.count(0));
    }
}

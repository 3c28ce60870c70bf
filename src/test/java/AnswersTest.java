/** Promises 9 and 19 to 21: ask, ifAsked, lies, cheapest. */
public final class AnswersTest {
    public static void main(String[] args) {
        askAnswersForTheSnapshot();
        askIsCounted();
        askRefuses();
        waysHaveTheirCosts();
        oldSnapshotsDoNotTrustMarks();
        ifAskedRefuses();
        liesAreSlotsLessSeenVersions();
        cheapestIsTheGreatestOfTheLeast();
        Expect.end();
    }

    /** 3 at the places 0, 1 (went), 4 and 5 (came late), 8; asker 0 at 5, asker 1 at the clock. */
    private static SeenPages mixed() {
        SeenPages pages = new SeenPages();
        Made.put(pages, 3, 3, 7, 7, 3);
        pages.open(0);
        pages.take(1);
        Made.put(pages, 3, 7, 7, 3);
        pages.open(1);
        return pages;
    }

    private static void askAnswersForTheSnapshot() {
        SeenPages pages = mixed();
        for (int way = 0; way < 3; way++) {
            Expect.same("asker 0 sees what went later", 3, pages.ask(0, 3, way));
            Expect.same("asker 1 sees what came later", 4, pages.ask(1, 3, way));
            Expect.same("asker 0, 7", 2, pages.ask(0, 7, way));
            Expect.same("asker 1, 7", 4, pages.ask(1, 7, way));
            Expect.same("no such value", 0, pages.ask(1, 9, way));
        }
    }

    private static void askIsCounted() {
        SeenPages pages = mixed();
        pages.ask(0, 3, 0);
        pages.ask(0, 3, 1);
        pages.ask(1, 3, 1);
        pages.ask(1, 9, 1);
        pages.sweepAll();
        pages.ask(1, 7, 2);
        Expect.same("scans", 1, pages.count(6));
        Expect.same("by the table", 3, pages.count(7));
        Expect.same("by marks", 1, pages.count(8));
        Expect.same("not trusted", 0, pages.count(9));
        Expect.same("costs 6, 3, 3, 0 and 2", 14, pages.count(10));
        Expect.same("asker 0 asked", 2, pages.asker(0, 2));
        Expect.same("asker 1 asked", 3, pages.asker(1, 2));
        pages.close(0);
        Expect.same("a closed asker's questions stay", 2, pages.asker(0, 2));
        Expect.same("saved", 6, pages.count(12));
        pages.undo();
        pages.undo();
        Expect.same("undone", 0, pages.count(8));
        Expect.same("undone with its cost", 12, pages.count(10));
        Expect.same("undone for the asker", 2, pages.asker(1, 2));
    }

    private static void askRefuses() {
        SeenPages pages = mixed();
        long before = pages.digest();
        Expect.throwsBounds("asker first", () -> pages.ask(4, 10, 3));
        Expect.throwsBounds("ask(-1, 0, 0)", () -> pages.ask(-1, 0, 0));
        Expect.throwsArgument("value before state", () -> pages.ask(2, 10, 0));
        Expect.throwsArgument("way before state", () -> pages.ask(2, 0, 3));
        Expect.throwsArgument("ask(0, -1, 0)", () -> pages.ask(0, -1, 0));
        Expect.throwsArgument("ask(0, 0, -1)", () -> pages.ask(0, 0, -1));
        Expect.throwsState("no snapshot", () -> pages.ask(2, 0, 0));
        Expect.same("nothing is changed or counted", before, pages.digest());
    }

    private static void waysHaveTheirCosts() {
        SeenPages pages = mixed();
        Expect.same("a scan", 6, pages.ifAsked(9, 3, 0, 1));
        Expect.same("pages with slots", 3, pages.ifAsked(10, 3, 1, 1));
        Expect.same("without marks as with 1", 3, pages.ifAsked(10, 3, 2, 1));
        pages.close(0);
        pages.close(1);
        pages.sweep(0);
        Expect.same("one page is marked", 2, pages.ifAsked(10, 3, 2, 1));
        Expect.same("the way 1 does not care", 3, pages.ifAsked(10, 3, 1, 1));
        Expect.same("nor does a scan", 6, pages.ifAsked(10, 3, 0, 1));
        pages.sweepAll();
        Expect.same("all are marked", 0, pages.ifAsked(10, 3, 2, 1));
        Expect.same("a scan for no slots", 6, pages.ifAsked(10, 9, 0, 1));
        Expect.same("no slots, no pages", 0, pages.ifAsked(10, 9, 1, 1));
        Expect.same("nothing is counted", 0, pages.count(10));
        pages.change(0, 4);
        Expect.same("the old version is in the index still", 3, pages.ifAsked(11, 3, 1, 1));
        Expect.same("and costs a page", 1, pages.ifAsked(11, 3, 2, 1));
        Expect.same("but is not seen", 3, pages.ifAsked(11, 3, 2, 0));
    }

    private static void oldSnapshotsDoNotTrustMarks() {
        SeenPages pages = new SeenPages();
        Made.put(pages, 1, 1, 1, 1);
        pages.sweep(0);
        pages.put(1);
        pages.sweep(1);
        Expect.same("marks by 4 and 5", 9, pages.page(0, 4) + pages.page(1, 4));
        Expect.same("the greatest one itself", 0, pages.ifAsked(5, 1, 2, 1));
        Expect.same("answers by the index", 5, pages.ifAsked(5, 1, 2, 0));
        Expect.same("below the greatest, cost as with 1", 2, pages.ifAsked(4, 1, 2, 1));
        Expect.same("below the greatest, answer as with 1", 4, pages.ifAsked(4, 1, 2, 0));
        Expect.same("long before", 0, pages.ifAsked(0, 1, 2, 0));
        pages.put(1);
        Expect.same("the mark by 5 is gone", 1, pages.ifAsked(4, 1, 2, 1));
        Expect.same("page 1 by the table", 4, pages.ifAsked(4, 1, 2, 0));
        Expect.same("below 4", 2, pages.ifAsked(3, 1, 2, 1));
        Expect.same("below 4", 3, pages.ifAsked(3, 1, 2, 0));
    }

    private static void ifAskedRefuses() {
        SeenPages pages = mixed();
        long before = pages.digest();
        Expect.same("snapshot 0", 0, pages.ifAsked(0, 3, 0, 0));
        Expect.throwsArgument("behind the clock", () -> pages.ifAsked(11, 3, 0, 0));
        Expect.throwsArgument("snapshot -1", () -> pages.ifAsked(-1, 3, 0, 0));
        Expect.throwsArgument("value 10", () -> pages.ifAsked(0, 10, 0, 0));
        Expect.throwsArgument("value -1", () -> pages.ifAsked(0, -1, 0, 0));
        Expect.throwsArgument("way 3", () -> pages.ifAsked(0, 0, 3, 0));
        Expect.throwsArgument("way -1", () -> pages.ifAsked(0, 0, -1, 0));
        Expect.throwsArgument("what 2", () -> pages.ifAsked(0, 0, 0, 2));
        Expect.throwsArgument("what -1", () -> pages.ifAsked(0, 0, 0, -1));
        Expect.same("nothing is changed", before, pages.digest());
    }

    private static void liesAreSlotsLessSeenVersions() {
        SeenPages pages = mixed();
        Expect.same("one 3 went", 1, pages.lies(3));
        Expect.same("no 7 went", 0, pages.lies(7));
        pages.change(0, 7);
        Expect.same("another 3 went", 2, pages.lies(3));
        Expect.same("what came is seen", 0, pages.lies(7));
        pages.close(0);
        pages.sweepAll();
        Expect.same("swept but the one held back", 1, pages.lies(3));
        pages.close(1);
        pages.sweepAll();
        Expect.same("swept", 0, pages.lies(3));
        Expect.throwsArgument("lies(10)", () -> pages.lies(10));
        Expect.throwsArgument("lies(-1)", () -> pages.lies(-1));
    }

    private static void cheapestIsTheGreatestOfTheLeast() {
        SeenPages pages = new SeenPages();
        Expect.same("no slots: 1 and 2 cost nothing", 2, pages.cheapest(0));
        for (int put = 0; put < 24; put++) {
            pages.put(1);
        }
        Expect.same("all cost 6", 2, pages.cheapest(1));
        pages.sweep(0);
        Expect.same("the way 2 costs 5", 2, pages.cheapest(1));
        Expect.throwsArgument("cheapest(10)", () -> pages.cheapest(10));
        Expect.throwsArgument("cheapest(-1)", () -> pages.cheapest(-1));
    }
}

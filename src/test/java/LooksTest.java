/** Promises 15 to 18: slot, page, asker, count. */
public final class LooksTest {
    public static void main(String[] args) {
        slotTells();
        slotRefuses();
        pageTells();
        pageRefuses();
        askerTells();
        askerRefuses();
        countTells();
        countRefuses();
        Expect.end();
    }

    /** Clock 8; 5 went by 6, 6 went by 8; asker 2 at 7; page 3 is marked by 5. */
    private static SeenPages lived() {
        SeenPages pages = new SeenPages();
        Made.put(pages, 5, 6, 7, 8, 9);
        pages.sweep(3);
        pages.take(0);
        pages.put(5);
        pages.open(2);
        pages.take(1);
        return pages;
    }

    private static void numbers(String what, int[] due, java.util.function.IntUnaryOperator got) {
        for (int index = 0; index < due.length; index++) {
            Expect.same(what + " " + index, due[index], got.applyAsInt(index));
        }
    }

    private static void slotTells() {
        SeenPages pages = lived();
        numbers("slot 0", new int[] {5, 1, 6, 0}, what -> pages.slot(0, what));
        numbers("slot 1", new int[] {6, 2, 8, 0}, what -> pages.slot(1, what));
        numbers("slot 5", new int[] {5, 7, 0, 1}, what -> pages.slot(5, what));
        numbers("slot 23", new int[] {-1, -1, -1, 0}, what -> pages.slot(23, what));
        pages.sweep(0);
        numbers("a swept slot", new int[] {-1, -1, -1, 0}, what -> pages.slot(0, what));
    }

    private static void slotRefuses() {
        SeenPages pages = lived();
        Expect.throwsBounds("place first", () -> pages.slot(24, 4));
        Expect.throwsBounds("slot(-1, 0)", () -> pages.slot(-1, 0));
        Expect.throwsArgument("slot(0, 4)", () -> pages.slot(0, 4));
        Expect.throwsArgument("slot(0, -1)", () -> pages.slot(0, -1));
    }

    private static void pageTells() {
        SeenPages pages = lived();
        numbers("page 0", new int[] {0, 4, 2, 1, -1}, what -> pages.page(0, what));
        numbers("page 1", new int[] {0, 2, 2, 0, -1}, what -> pages.page(1, what));
        numbers("page 3", new int[] {1, 0, 0, 0, 5}, what -> pages.page(3, what));
        numbers("page 5", new int[] {0, 0, 0, 0, -1}, what -> pages.page(5, what));
        pages.close(2);
        Expect.same("without the asker", 2, pages.page(0, 3));
        SeenPages full = Made.full();
        full.take(23);
        full.take(20);
        numbers("page 5", new int[] {0, 4, 2, 2, -1}, what -> full.page(5, what));
        numbers("page 4", new int[] {0, 4, 4, 0, -1}, what -> full.page(4, what));
    }

    private static void pageRefuses() {
        SeenPages pages = lived();
        Expect.throwsBounds("page first", () -> pages.page(6, 5));
        Expect.throwsBounds("page(-1, 0)", () -> pages.page(-1, 0));
        Expect.throwsArgument("page(0, 5)", () -> pages.page(0, 5));
        Expect.throwsArgument("page(0, -1)", () -> pages.page(0, -1));
    }

    private static void askerTells() {
        SeenPages pages = lived();
        pages.ask(2, 6, 1);
        numbers("asker 2", new int[] {7, 5, 1}, what -> pages.asker(2, what));
        numbers("asker 0", new int[] {-1, -1, 0}, what -> pages.asker(0, what));
        pages.open(3);
        numbers("asker 3", new int[] {8, 4, 0}, what -> pages.asker(3, what));
        pages.close(2);
        numbers("closed", new int[] {-1, -1, 1}, what -> pages.asker(2, what));
        SeenPages empty = new SeenPages();
        empty.open(0);
        empty.put(1);
        numbers("at 0", new int[] {0, 0, 0}, what -> empty.asker(0, what));
    }

    private static void askerRefuses() {
        SeenPages pages = lived();
        Expect.throwsBounds("asker first", () -> pages.asker(4, 3));
        Expect.throwsBounds("asker(-1, 0)", () -> pages.asker(-1, 0));
        Expect.throwsArgument("asker(0, 3)", () -> pages.asker(0, 3));
        Expect.throwsArgument("asker(0, -1)", () -> pages.asker(0, -1));
    }

    private static void countTells() {
        SeenPages pages = lived();
        numbers("count", new int[] {8, 7, 6, 4, 18, 1, 0, 0, 0, 0, 0, 0, 6}, what -> pages.count(what));
        pages.ask(2, 5, 0);
        pages.ask(2, 5, 1);
        pages.ask(2, 5, 1);
        pages.ask(2, 5, 2);
        pages.ask(2, 5, 2);
        pages.ask(2, 5, 2);
        pages.sweep(0);
        numbers("count", new int[] {8, 7, 5, 4, 19, 1, 1, 2, 3, 0, 16, 1, 6}, what -> pages.count(what));
        long before = pages.digest();
        for (int what = 0; what < 13; what++) {
            pages.count(what);
        }
        Expect.same("looks change nothing", before, pages.digest());
    }

    private static void countRefuses() {
        SeenPages pages = lived();
        Expect.throwsArgument("count(13)", () -> pages.count(13));
        Expect.throwsArgument("count(-1)", () -> pages.count(-1));
        Expect.throwsArgument("count least", () -> pages.count(Integer.MIN_VALUE));
    }
}

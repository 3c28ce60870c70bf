/** Promises 22 to 24: holder, marked, digest. */
public final class WouldBeTest {
    public static void main(String[] args) {
        holderHoldsBackMost();
        twoHoldTogether();
        markedIsAShare();
        digestOfANewObject();
        digestFollowsItsList();
        digestSeesTheBuffer();
        Expect.end();
    }

    private static void holderHoldsBackMost() {
        SeenPages pages = new SeenPages();
        Made.put(pages, 1, 2, 3, 4);
        Expect.same("no askers", -1, pages.holder());
        pages.open(3);
        Expect.same("nothing went", -1, pages.holder());
        pages.take(0);
        Expect.same("asker 3 alone", 3, pages.holder());
        pages.open(1);
        Expect.same("the older one still", 3, pages.holder());
        pages.take(1);
        Expect.same("without 3, one more", 3, pages.holder());
        pages.close(3);
        Expect.same("now asker 1", 1, pages.holder());
        pages.sweepAll();
        Expect.same("swept up to asker 1", 1, pages.holder());
        pages.close(1);
        Expect.same("nobody holds", -1, pages.holder());
        Expect.same("nothing is swept by it", 1, pages.count(11));
    }

    private static void twoHoldTogether() {
        SeenPages pages = new SeenPages();
        Made.put(pages, 1, 2, 3);
        pages.open(0);
        pages.open(1);
        pages.take(0);
        Expect.same("neither alone holds back", -1, pages.holder());
        pages.open(0);
        Expect.same("asker 1 does now", 1, pages.holder());
        pages.open(1);
        pages.open(0);
        pages.take(1);
        Expect.same("both at the same change", -1, pages.holder());
        pages.open(1);
        Expect.same("asker 0 is the lowest", 0, pages.holder());
        SeenPages other = new SeenPages();
        other.put(1);
        other.open(2);
        other.take(0);
        other.open(0);
        Expect.same("an asker behind the change holds nothing", 2, other.holder());
    }

    private static void markedIsAShare() {
        SeenPages pages = new SeenPages();
        for (int marks = 0; marks <= 6; marks++) {
            Expect.sameDouble("marked", marks / 6.0, pages.marked());
            if (marks < 6) {
                pages.sweep(marks);
            }
        }
        pages.put(1);
        Expect.sameDouble("a change clears one", 5 / 6.0, pages.marked());
    }

    /** The list of a new object is written out here, so that the hash does not rest on the class. */
    private static void digestOfANewObject() {
        long hash = 3467L;
        for (int what = 0; what < 13; what++) {
            hash = 31 * hash + (what == 4 ? 24 : 0);
        }
        for (int place = 0; place < 24; place++) {
            hash = 31 * (31 * (31 * (31 * hash - 1) - 1) - 1);
        }
        for (int page = 0; page < 6; page++) {
            hash = 31 * 31 * 31 * 31 * 31 * hash - 1;
        }
        for (int asker = 0; asker < 4; asker++) {
            hash = 31 * (31 * (31 * hash - 1) - 1);
        }
        for (int value = 0; value < 10; value++) {
            hash = 31 * (31 * hash) + 6;
            hash = 31L * 31 * 31 * 31 * 31 * hash;
            hash = 31 * hash + 2;
        }
        hash = 31 * hash - 1;
        hash = 31 * 31 * hash;
        Expect.same("digest of a new object", hash, new SeenPages().digest());
    }

    private static void digestFollowsItsList() {
        for (int marks = 0; marks <= 6; marks++) {
            SeenPages pages = Made.full();
            for (int page = 0; page < marks; page++) {
                pages.sweep(page);
            }
            Expect.same("digest", FaceDigest.of(pages, ""), pages.digest());
            Expect.same("twice the same", pages.digest(), pages.digest());
        }
        SeenPages pages = Made.fullAndMarked();
        pages.open(1);
        pages.take(4);
        pages.ask(1, 4, 2);
        Made.type(pages, "~3,zz");
        Expect.same("digest", FaceDigest.of(pages, "~3,zz"), pages.digest());
    }

    private static void digestSeesTheBuffer() {
        SeenPages pages = new SeenPages();
        long empty = pages.digest();
        pages.append('+');
        long plus = pages.digest();
        Expect.same("a character counts", 0, plus == empty ? 1 : 0);
        pages.clearBuffer();
        Expect.same("cleared", empty, pages.digest());
        pages.append('-');
        Expect.same("another one counts otherwise", 0, pages.digest() == plus ? 1 : 0);
    }
}

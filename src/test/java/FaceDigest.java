/** The digest as the document lists it, put together from the other calls of the face. */
final class FaceDigest {
    private FaceDigest() {
    }

    static long of(SeenPages pages, String buffer) {
        long hash = 3467L;
        for (int what = 0; what <= 12; what++) {
            hash = 31 * hash + pages.count(what);
        }
        for (int at = 0; at < 24 * 4; at++) {
            hash = 31 * hash + pages.slot(at / 4, at % 4);
        }
        for (int at = 0; at < 6 * 5; at++) {
            hash = 31 * hash + pages.page(at / 5, at % 5);
        }
        for (int at = 0; at < 4 * 3; at++) {
            hash = 31 * hash + pages.asker(at / 3, at % 3);
        }
        for (int value = 0; value < 10; value++) {
            for (int at = 0; at < 3 * 2; at++) {
                hash = 31 * hash + pages.ifAsked(pages.count(0), value, at / 2, at % 2);
            }
            hash = 31 * hash + pages.lies(value);
            hash = 31 * hash + pages.cheapest(value);
        }
        hash = 31 * hash + pages.holder();
        hash = 31 * hash + Double.doubleToLongBits(pages.marked());
        hash = 31 * hash + buffer.length();
        for (int at = 0; at < buffer.length(); at++) {
            hash = 31 * hash + buffer.charAt(at);
        }
        return hash;
    }
}

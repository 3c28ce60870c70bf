/** All that can be seen of an object, as a text. It takes some 150 calls. */
final class Looks {
    private Looks() {
    }

    /** All but how many states are saved, and what is in the buffer. */
    static String butSaved(SeenPages pages) {
        StringBuilder seen = new StringBuilder();
        for (int what = 0; what <= 11; what++) {
            seen.append(' ').append(pages.count(what));
        }
        for (int at = 0; at < 24 * 4; at++) {
            seen.append(' ').append(pages.slot(at / 4, at % 4));
        }
        for (int at = 0; at < 6 * 5; at++) {
            seen.append(' ').append(pages.page(at / 5, at % 5));
        }
        for (int at = 0; at < 4 * 3; at++) {
            seen.append(' ').append(pages.asker(at / 3, at % 3));
        }
        return seen.toString();
    }
}

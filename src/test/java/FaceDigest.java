import java.util.ArrayList;
import java.util.List;

/** The digest as the document lists it, put together from some 240 other calls of the face. */
final class FaceDigest {
    private FaceDigest() {
    }

    static long of(SeenPages pages, String buffer) {
        return hash(numbers(pages, buffer));
    }

    static long hash(List<Long> numbers) {
        long hash = 3467L;
        for (long number : numbers) {
            hash = 31 * hash + number;
        }
        return hash;
    }

    static List<Long> numbers(SeenPages pages, String buffer) {
        List<Long> numbers = new ArrayList<>();
        for (int what = 0; what <= 12; what++) {
            add(numbers, pages.count(what));
        }
        for (int at = 0; at < 24 * 4; at++) {
            add(numbers, pages.slot(at / 4, at % 4));
        }
        for (int at = 0; at < 6 * 5; at++) {
            add(numbers, pages.page(at / 5, at % 5));
        }
        for (int at = 0; at < 4 * 3; at++) {
            add(numbers, pages.asker(at / 3, at % 3));
        }
        int clock = pages.count(0);
        for (int value = 0; value <= 9; value++) {
            for (int at = 0; at < 3 * 2; at++) {
                add(numbers, pages.ifAsked(clock, value, at / 2, at % 2));
            }
            add(numbers, pages.lies(value), pages.cheapest(value));
        }
        add(numbers, pages.holder(), Double.doubleToLongBits(pages.marked()), buffer.length());
        buffer.chars().forEach(code -> add(numbers, code));
        return numbers;
    }

    static void add(List<Long> numbers, long... more) {
        for (long number : more) {
            numbers.add(number);
        }
    }
}

import java.math.BigInteger;
import java.util.ArrayList;
import java.util.List;
import java.util.function.Consumer;
import java.util.function.Supplier;

/** The promises 22 to 24: holder, marked, digest. */
final class WouldBeSentences {
    private static final String SIXTY = "+1,!~{|}zyx".repeat(6).substring(0, 60);

    private WouldBeSentences() {
    }

    static void run(Doc doc) {
        holder(doc.section("Promise 22: holder"));
        marked(doc.section("Promise 23: marked"));
        digest(doc.section("Promise 24: digest"));
    }

    private static void holder(Doc.Section it) {
        it.saysOfCall("`int holder()`: Finds the asker who holds back most.", () -> {
            SeenPages pages = holding(2);
            Expect.same("asker 2", 2, pages.holder());
            Expect.alike("nothing is changed by it", holding(2), pages);
            Expect.same("the last asker", 3, holding(3).holder());
            Expect.same("the first asker", 0, holding(0).holder());
        });
        it.says("Returns the asker without whom sweeping all pages would take out most versions, more than with it; of "
            + "several the lowest; NONE if there is none.", () -> {
            theOneWithMost();
            moreThanWithIt();
            ofSeveral();
            none();
        });
    }

    /** An asker opened, and then a version of the last page went. */
    private static SeenPages holding(int asker) {
        SeenPages pages = Made.full();
        pages.open(asker);
        pages.take(23);
        return pages;
    }

    private static void theOneWithMost() {
        SeenPages pages = Made.full();
        pages.open(1);
        pages.take(0);
        pages.open(2);
        pages.take(5);
        pages.take(20);
        Expect.same("asker 1 holds one back, asker 2 none by itself", 1, pages.holder());
        pages.sweepAll();
        Expect.same("a sweep does not help", 1, pages.holder());
        pages.close(1);
        Expect.same("then asker 2 holds two more back", 2, pages.holder());
        pages.sweepAll();
        Expect.same("still two", 2, pages.holder());
        pages.open(3);
        Expect.same("a young asker holds nothing", 2, pages.holder());
        pages.open(2);
        Expect.same("opened anew, it holds nothing", -1, pages.holder());
    }

    private static void moreThanWithIt() {
        SeenPages pages = Made.full();
        pages.take(0);
        pages.open(0);
        Expect.same("what went by the horizon is not held back", -1, pages.holder());
        pages.take(1);
        Expect.same("what went by more is", 0, pages.holder());
        pages.sweepAll();
        Expect.same("taken out already does not count", 0, pages.holder());
        pages.undo();
        pages.open(1);
        Expect.same("one more in any case is no reason for asker 1", 0, pages.holder());
    }

    private static void ofSeveral() {
        SeenPages pages = Made.full();
        pages.open(3);
        pages.open(1);
        pages.take(0);
        Expect.same("two with the same snapshot: neither alone", -1, pages.holder());
        pages.open(1);
        Expect.same("the one who is left", 3, pages.holder());
        pages.open(0);
        pages.open(2);
        Expect.same("of four", 3, pages.holder());
        pages.open(3);
        Expect.same("all behind it", -1, pages.holder());
    }

    private static void none() {
        Expect.same("a new object", -1, new SeenPages().holder());
        Expect.same("no askers, though one went", -1, Made.few().holder());
        SeenPages pages = Made.full();
        for (int asker = 0; asker < 4; asker++) {
            pages.open(asker);
        }
        Expect.same("all open, nothing went", -1, pages.holder());
        pages.take(0);
        Expect.same("all hold it back together", -1, pages.holder());
    }

    private static void marked(Doc.Section it) {
        it.saysOfCall("`double marked()`: Returns how many pages are marked.", () -> {
            SeenPages pages = Made.fullAndMarked();
            Expect.sameDouble("all", 1.0, pages.marked());
            pages.take(0);
            Expect.sameDouble("one less", 5.0 / 6.0, pages.marked());
            Expect.alike("nothing is changed", oneTaken(), pages);
        });
        it.says("Returns the marked pages, as a double, divided by 6.", () -> {
            SeenPages pages = new SeenPages();
            double[] due = {0.0, 1.0 / 6.0, 2.0 / 6.0, 0.5, 4.0 / 6.0, 5.0 / 6.0, 1.0};
            for (int marks = 0; marks <= 6; marks++) {
                Expect.sameDouble("marks: " + marks, due[marks], pages.marked());
                if (marks < 6) {
                    pages.sweep(5 - marks);
                }
            }
        });
    }

    private static SeenPages oneTaken() {
        SeenPages pages = Made.fullAndMarked();
        pages.take(0);
        return pages;
    }

    private static void digest(Doc.Section it) {
        it.saysOfCall("`long digest()`: Computes a hash of the whole state.", () -> {
            Expect.same("alike", Made.lived().digest(), Made.lived().digest());
            SeenPages pages = Made.lived();
            pages.digest();
            Expect.alike("nothing is changed", Made.lived(), pages);
        });
        it.says("The hash starts at 3467.", () ->
            Expect.same("a new object", FaceDigest.hash(newObjectsNumbers()), new SeenPages().digest()));
        it.says("For each value v of the following list, in order, the hash becomes 31 * hash + v, in long arithmetic with "
            + "overflow.", () -> {
            for (int marks = 0; marks <= 6; marks++) {
                SeenPages pages = markedPages(marks);
                List<Long> numbers = FaceDigest.numbers(markedPages(marks), "");
                Expect.same("wrapped around, marks: " + marks, wrapped(numbers), pages.digest());
            }
        });
        it.says("The values are: count(0) to count(12); for each slot its numbers 0 to 3; for each page its numbers 0 to 4; "
            + "for each asker its numbers 0 to 2; for each value from 0 to 9 ifAsked by the clock in the ways 0 to 2 with 0 "
            + "and 1, lies, and cheapest; holder; the bits of marked (as Double.doubleToLongBits); the length of the buffer "
            + "and each of its character codes.", WouldBeSentences::theValues);
        it.says("Returns the hash.", () -> {
            for (String typed : new String[] {"", "!", "~", "+1", SIXTY}) {
                SeenPages pages = new SeenPages();
                Made.type(pages, typed);
                Expect.same("with " + typed, FaceDigest.of(pages, typed), pages.digest());
            }
        });
    }

    /** What a new object tells, written out: nothing here comes from the class. */
    private static List<Long> newObjectsNumbers() {
        List<Long> numbers = new ArrayList<>();
        FaceDigest.add(numbers, 0, 0, 0, 0, 24, 0, 0, 0, 0, 0, 0, 0, 0);
        for (int place = 0; place < 24; place++) {
            FaceDigest.add(numbers, -1, -1, -1, 0);
        }
        for (int page = 0; page < 6; page++) {
            FaceDigest.add(numbers, 0, 0, 0, 0, -1);
        }
        for (int asker = 0; asker < 4; asker++) {
            FaceDigest.add(numbers, -1, -1, 0);
        }
        for (int value = 0; value < 10; value++) {
            FaceDigest.add(numbers, 0, 6, 0, 0, 0, 0, 0, 2);
        }
        FaceDigest.add(numbers, -1, 0, 0);
        return numbers;
    }

    /** The hash by numbers of any length, of which the lowest 64 bits are taken at the end alone. */
    private static long wrapped(List<Long> numbers) {
        BigInteger hash = BigInteger.valueOf(3467);
        for (long number : numbers) {
            hash = hash.multiply(BigInteger.valueOf(31)).add(BigInteger.valueOf(number));
        }
        return hash.longValue();
    }

    private static SeenPages markedPages(int marks) {
        SeenPages pages = Made.full();
        for (int page = 0; page < marks; page++) {
            pages.sweep(page);
        }
        return pages;
    }

    /** In each of the states something else is not as in a new object. */
    private static void theValues() {
        theValues("", Made::full, pages -> { });
        theValues("", Made::fullAndMarked, pages -> pages.take(23));
        theValues("+4,~", Made::lived, pages -> { });
        theValues("+4,~", Made::lived, SeenPages::undo);
        theValues("+4,~", Made::lived, pages -> pages.close(0));
        theValues("+4,~", Made::lived, pages -> pages.sweep(0));
        theValues("+4,~", Made::lived, SeenPages::sweepAll);
        theValues("+4,~!", Made::lived, pages -> pages.append('!'));
        theValues("", Made::lived, SeenPages::clearBuffer);
        for (int way = 0; way < 3; way++) {
            int asked = way;
            theValues("+4,~", Made::lived, pages -> pages.ask(2, 6, asked));
        }
        for (int asker = 0; asker < 4; asker++) {
            int held = asker;
            theValues("", () -> holding(held), pages -> pages.ask(held, 3, 1));
        }
        for (int marks = 0; marks <= 6; marks++) {
            int made = marks;
            theValues("", () -> markedPages(made), SeenPages::marked);
        }
        theValues(SIXTY, Made::few, pages -> Made.type(pages, SIXTY));
    }

    private static void theValues(String typed, Supplier<SeenPages> made, Consumer<SeenPages> call) {
        SeenPages pages = made.get();
        call.accept(pages);
        Expect.same("with " + typed, FaceDigest.of(pages, typed), pages.digest());
    }
}

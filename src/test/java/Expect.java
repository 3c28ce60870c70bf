import java.util.function.BiFunction;
import java.util.function.Consumer;
import java.util.function.Function;
import java.util.function.Supplier;

/** Compares answers with those that are due, and ends a test with exit code 1 if one is not. */
final class Expect {
    static final String BOUNDS = "throws.IndexOutOfBoundsException";
    static final String ARGUMENT = "throws.IllegalArgumentException";
    static final String STATE = "throws.IllegalStateException";

    private static int checked = 0;
    private static int wrong = 0;
    private static String subject = "";

    private Expect() {
    }

    /** A call of the face whose answer, or exception, is looked at. */
    interface Call {
        Object answer();
    }

    /** What the answers are about from now on: told ahead of a wrong one. */
    static void about(String what) {
        subject = what + ": ";
    }

    static int checked() {
        return checked;
    }

    static void same(String what, long due, long got) {
        note(what, String.valueOf(due), String.valueOf(got));
    }

    static void sameDouble(String what, double due, double got) {
        same(what, Double.doubleToLongBits(due), Double.doubleToLongBits(got));
    }

    static void throwsBounds(String what, Call call) {
        note(what, BOUNDS, told(call));
    }

    static void throwsArgument(String what, Call call) {
        note(what, ARGUMENT, told(call));
    }

    static void throwsState(String what, Call call) {
        note(what, STATE, told(call));
    }

    /** The answer as a text, or the exact class of what the call throws. */
    static String told(Call call) {
        try {
            return String.valueOf(call.answer());
        } catch (RuntimeException thrown) {
            return "throws." + thrown.getClass().getSimpleName();
        }
    }

    static void note(String what, String due, String got) {
        checked++;
        if (!due.equals(got)) {
            wrong++;
            System.out.println(subject + what + ": answered " + got + ", due is " + due);
        }
    }

    /** Ends the test. */
    static void end() {
        System.out.println(checked + " checked, " + wrong + " wrong");
        if (wrong != 0 || checked == 0) {
            System.exit(1);
        }
    }

    /** Numbers that a call tells by its last argument, from 0 on. */
    static void numbers(String what, Function<Integer, Integer> got, int... due) {
        for (int index = 0; index < due.length; index++) {
            same(what + " " + index, due[index], got.apply(index));
        }
    }

    /** The call throws what is due and changes nothing: a twin without the call stays alike. */
    static void refuses(String what, String due, Supplier<SeenPages> made, Function<SeenPages, Object> call) {
        SeenPages pages = made.get();
        note(what, due, told(() -> call.apply(pages)));
        alike(what, made.get(), pages);
    }

    /** Numbers too small and too large are refused: those beside the range, and the farthest. */
    static void refusesOutside(int last, String due, Supplier<SeenPages> made,
            BiFunction<SeenPages, Integer, Object> call) {
        for (int number : new int[] {-1, last + 1, Integer.MIN_VALUE, Integer.MAX_VALUE}) {
            refuses("with " + number, due, made, pages -> call.apply(pages, number));
        }
    }

    /** Each number of a range, also the first and the last one, is taken: the answer is due. */
    static void takes(int last, Supplier<SeenPages> made, BiFunction<SeenPages, Integer, Object> call,
            Function<Integer, Object> due) {
        for (int number = 0; number <= last; number++) {
            SeenPages pages = made.get();
            int given = number;
            note("with " + number, String.valueOf(due.apply(number)), told(() -> call.apply(pages, given)));
        }
    }

    /** The call saves one state, and undo brings all back but the buffer. */
    static void undoable(String what, Supplier<SeenPages> made, Consumer<SeenPages> call) {
        SeenPages pages = made.get();
        SeenPages twin = made.get();
        int saved = pages.count(12);
        call.accept(pages);
        same(what + ": saved states", Math.min(saved + 1, 6), pages.count(12));
        pages.undo();
        pages.clearBuffer();
        twin.clearBuffer();
        if (saved < 6) {
            alike(what + ": undone", twin, pages);
        } else {
            note(what + ": undone", Looks.butSaved(twin), Looks.butSaved(pages));
        }
    }

    /** Two objects tell the same, down to the oldest of their saved states. */
    static void alike(String what, SeenPages twin, SeenPages pages) {
        same(what + ": digest", twin.digest(), pages.digest());
        for (int state = 0; state <= 6; state++) {
            note(what + ": undo", told(twin::undo), told(pages::undo));
            same(what + ": digest of a saved state", twin.digest(), pages.digest());
        }
    }
}

/** Compares answers with those that are due, and ends a test with exit code 1 if one is not. */
final class Expect {
    private static int checked = 0;
    private static int wrong = 0;

    private Expect() {
    }

    /** A call of the face whose answer, or exception, is looked at. */
    interface Call {
        Object answer();
    }

    static void same(String what, long due, long got) {
        note(what, String.valueOf(due), String.valueOf(got));
    }

    static void sameDouble(String what, double due, double got) {
        same(what, Double.doubleToLongBits(due), Double.doubleToLongBits(got));
    }

    static void throwsBounds(String what, Call call) {
        note(what, "throws.IndexOutOfBoundsException", told(call));
    }

    static void throwsArgument(String what, Call call) {
        note(what, "throws.IllegalArgumentException", told(call));
    }

    static void throwsState(String what, Call call) {
        note(what, "throws.IllegalStateException", told(call));
    }

    /** The answer as a text, or the exact class of what the call throws. */
    static String told(Call call) {
        try {
            return String.valueOf(call.answer());
        } catch (RuntimeException thrown) {
            return "throws." + thrown.getClass().getSimpleName();
        }
    }

    static void note(String what, String due, String got) {
        checked++;
        if (!due.equals(got)) {
            wrong++;
            System.out.println(what + ": answered " + got + ", due is " + due);
        }
    }

    /** Ends the test. */
    static void end() {
        System.out.println(checked + " checked, " + wrong + " wrong");
        if (wrong != 0 || checked == 0) {
            System.exit(1);
        }
    }

    static void putAll(SeenPages pages, int... values) {
        for (int value : values) {
            pages.put(value);
        }
    }

    static void type(SeenPages pages, String text) {
        for (int index = 0; index < text.length(); index++) {
            pages.append(text.charAt(index));
        }
    }

    /** Puts 0 to 9 over and over until no slot is empty: the value of a place is its last digit. */
    static SeenPages full() {
        SeenPages pages = new SeenPages();
        for (int place = 0; place < 24; place++) {
            pages.put(place % 10);
        }
        return pages;
    }
}

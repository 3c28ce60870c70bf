/** Promises 10 to 13: append, clearBuffer, firstError, play. */
public final class TextsTest {
    public static void main(String[] args) {
        appendHoldsSixty();
        appendRefuses();
        clearBufferTellsTheLength();
        errorsHaveTheirPlaces();
        playMakesTheChanges();
        playStopsAtTheFirstImpossibleOne();
        playRefuses();
        playIsOneCallForUndo();
        Expect.end();
    }

    private static void appendHoldsSixty() {
        SeenPages pages = new SeenPages();
        for (int length = 1; length <= 60; length++) {
            Expect.same("append", length, pages.append(33 + length));
        }
        Expect.throwsState("the 61st", () -> pages.append('+'));
        Expect.throwsArgument("code before state", () -> pages.append(32));
        Expect.same("length", 60, pages.clearBuffer());
        Expect.same("nothing is saved", 0, pages.count(12));
    }

    private static void appendRefuses() {
        SeenPages pages = new SeenPages();
        Expect.same("the least", 1, pages.append(33));
        Expect.same("the greatest", 2, pages.append(126));
        Expect.throwsArgument("append(32)", () -> pages.append(32));
        Expect.throwsArgument("append(127)", () -> pages.append(127));
        Expect.throwsArgument("append(-1)", () -> pages.append(-1));
        Expect.throwsArgument("a code that is + as a byte", () -> pages.append(256 + '+'));
        Expect.throwsArgument("a code that is + as a char", () -> pages.append(65536 + '+'));
        Expect.same("length", 2, pages.clearBuffer());
    }

    private static void clearBufferTellsTheLength() {
        SeenPages pages = new SeenPages();
        Expect.same("nothing", 0, pages.clearBuffer());
        Made.type(pages, "+1,x");
        Expect.same("four", 4, pages.clearBuffer());
        Expect.same("nothing again", 0, pages.clearBuffer());
        Made.type(pages, "+1");
        Expect.same("nothing is left over", 2, pages.firstError());
    }

    private static void errorsHaveTheirPlaces() {
        noError("", "+", "+0", "+9", "-", "-0", "-9", "-1", "-2", "-10", "-19", "-20", "-23");
        noError("0", "0=", "0=0", "23=9", "1", "19", "~", "~0", "~5", "+1,", "+1,-2,3=4,~5");
        errorAt(0, "a", ",", "=", " !".trim(), "/", ":");
        errorAt(1, "++", "+,", "+a", "-,", "--", "-=", "~6", "~9", "~,", "0,", "0+", "01", "24", "29", "30", "99");
        errorAt(2, "+12", "+1+", "-00", "-01", "-24", "-30", "-0=", "~05", "~0=", "0==", "0=,", "0=-", "123", "230=1");
        errorAt(3, "+1,,", "+1,=", "-123", "-23=", "23==", "0=12", "0=1=", "+1,a+");
        errorAt(4, "+1,24", "12=10", "+1,-,");
        SeenPages pages = new SeenPages();
        Made.type(pages, "+1,+2,+3,+4,+5,+6,+7,+8,+9,+0,+1,+2,+3,+4,+5,+6,+7,+8,+9,+0,");
        Expect.same("sixty that could go on", 60, pages.firstError());
        Expect.same("nothing is changed", 60, pages.clearBuffer());
    }

    private static void noError(String... texts) {
        for (String text : texts) {
            errorAt(text.length(), text);
        }
    }

    private static void errorAt(int due, String... texts) {
        for (String text : texts) {
            SeenPages pages = new SeenPages();
            Made.type(pages, text);
            Expect.same("firstError of " + text, due, pages.firstError());
            Expect.same("the buffer stands", text.length(), pages.clearBuffer());
        }
    }

    private static void playMakesTheChanges() {
        SeenPages pages = new SeenPages();
        Made.type(pages, "+7,+8,-0,1=3,~0,~5,+9");
        Expect.same("all seven", 7, pages.play());
        Expect.same("the buffer is cleared", 0, pages.clearBuffer());
        Expect.same("put 9 where 7 went", 9, pages.slot(0, 0));
        Expect.same("8 went and was swept", 5, pages.slot(0, 1));
        Expect.same("1=3", 3, pages.slot(2, 0));
        Expect.same("swept are two", 2, pages.count(11));
        Expect.same("page 5 is marked by 4", 4, pages.page(5, 4));
        Expect.same("put took page 0's mark", 0, pages.page(0, 0));
        Expect.same("clock", 5, pages.count(0));
        SeenPages last = Made.full();
        Made.type(last, "-23,-19,~4,~5,10=6");
        Expect.same("places with two digits", 5, last.play());
        Expect.same("place 23 went, and was swept", -1, last.slot(23, 0));
        Expect.same("the lowest empty slot", 6, last.slot(19, 0));
        Expect.same("place 10 went", 27, last.slot(10, 2));
    }

    private static void playStopsAtTheFirstImpossibleOne() {
        SeenPages pages = new SeenPages();
        Made.type(pages, "+1,-0,-0,+2");
        Expect.same("up to the second -0", 2, pages.play());
        Expect.same("no +2", 1, pages.count(2));
        Made.type(pages, "0=1,+1");
        Expect.same("what went", 0, pages.play());
        Made.type(pages, "5=1,+1");
        Expect.same("an empty slot", 0, pages.play());
        Expect.same("the buffer is cleared", 0, pages.clearBuffer());
        SeenPages full = Made.full();
        Made.type(full, "+1");
        Expect.same("no empty slot to put", 0, full.play());
        Made.type(full, "~0,0=1");
        Expect.same("nor to change", 1, full.play());
        Expect.same("clock", 24, full.count(0));
    }

    private static void playRefuses() {
        SeenPages pages = new SeenPages();
        Expect.throwsArgument("an empty buffer", () -> pages.play());
        for (String text : new String[] {"+", "-", "~", "0", "0=", "+1,", "+1,-", "x", "+1x", "24=1", "-24", "~6", "+1,,+1"}) {
            Made.type(pages, text);
            Expect.throwsArgument("play of " + text, () -> pages.play());
            Expect.same("the buffer stands", text.length(), pages.clearBuffer());
        }
        Expect.same("nothing is saved", 0, pages.count(12));
        Expect.same("nothing is put", 0, pages.count(0));
    }

    private static void playIsOneCallForUndo() {
        SeenPages pages = new SeenPages();
        pages.put(4);
        long before = pages.digest();
        Made.type(pages, "+1,0=2,~0");
        pages.play();
        Expect.same("one more is saved", 2, pages.count(12));
        Made.type(pages, "-9");
        Expect.same("none is made", 0, pages.play());
        Expect.same("that is saved too", 3, pages.count(12));
        Made.type(pages, "~");
        pages.undo();
        pages.undo();
        Expect.same("undo leaves the buffer", 1, pages.clearBuffer());
        Expect.same("all is as before", before, pages.digest());
    }
}

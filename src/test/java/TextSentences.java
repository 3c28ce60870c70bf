/** The term "Input text", and the promises 10 to 13: append, clearBuffer, firstError, play. */
final class TextSentences {
    private static final String SIXTY_TO_GO_ON = "+1,+2,+3,+4,+5,+6,+7,+8,+9,+0,+1,+2,+3,+4,+5,+6,+7,+8,+9,+0,";
    private static final String SIXTY_WHOLE = "+0,+1,+2,+3,+4,+5,+6,+7,+8,+9,+0,+1,+2,+3,+4,+5,+6,+7,+8,1=9";
    private static final int COMMA = ',';

    private TextSentences() {
    }

    static void run(Doc doc) {
        inputText(doc.section("Input text"));
        append(doc.section("Promise 10: append"));
        clearBuffer(doc.section("Promise 11: clearBuffer"));
        firstError(doc.section("Promise 12: firstError"));
        play(doc.section("Promise 13: play"));
        playRefuses(doc.section("Promise 13: play"));
    }

    private static void inputText(Doc.Section it) {
        it.says("The buffer has at most 60 characters.", () -> {
            SeenPages pages = Made.with(SIXTY_WHOLE);
            Expect.throwsState("the 61st", () -> pages.append(COMMA));
            Expect.same("60 stand", 60, pages.firstError());
            Expect.same("they can be played", 20, pages.play());
            Expect.same("then there is room again", 1, pages.append(COMMA));
        });
        it.says("Changes as a text are one or more parts with \",\" between them, each \"+\" and a digit (a value is put), "
            + "\"-\" and a place, 0 to 23 without a leading zero (that version is taken away), a place, \"=\" and a digit "
            + "(that version is changed), or \"~\" and a digit, 0 to 5 (that page is swept).", () -> {
            partsAreWhole();
            partsAreNotWhole();
            partsMeanTheirChanges();
        });
        it.says("The buffer is read from left to right; a character is a syntax error if no changes as a text, of any "
            + "length, begin with the characters before it and this character.", TextSentences::errors);
    }

    private static void partsAreWhole() {
        for (int place = 0; place < 24; place++) {
            whole("-" + place);
            whole(place + "=5");
        }
        for (int digit = 0; digit < 10; digit++) {
            whole("+" + digit);
            whole("0=" + digit);
            whole("23=" + digit);
        }
        for (int page = 0; page < 6; page++) {
            whole("~" + page);
        }
        whole("+1,-2");
        whole("~5,10=9,-23,+0");
    }

    private static void whole(String text) {
        SeenPages pages = Made.with(text);
        Expect.same("no error in " + text, text.length(), pages.firstError());
        Expect.note(text + " can be played", "true", String.valueOf(!Expect.told(pages::play).equals(Expect.ARGUMENT)));
    }

    private static void partsAreNotWhole() {
        String[] texts = {"", "+", "-", "~", "0", "9", "23", "0=", "23=", ",", "+1,", "-2,", "3=4,", "~5,", ",+1", "+1,,+1",
            "-00", "-01", "-05", "-023", "00=1", "01=1", "-24", "-30", "-99", "-100", "24=1", "30=1", "99=1", "230=1",
            "~6", "~7", "~8", "~9", "~00", "~05", "~10", "+00", "+10", "0=10", "0==1", "=1", "+a", "-a", "a", "~a", "0=a",
            "+-1", "-+1", "--1", "+1+1", "+1-1", "-1-1", "-1=1", "~1=1", "+1=1", "+1;+1", "+1,+", "+1,-", "+1,0", "+1,0="};
        for (String text : texts) {
            Expect.throwsArgument(text + " is not whole", () -> Made.with(text).play());
        }
        for (int code = 33; code <= 126; code++) {
            String first = String.valueOf((char) code);
            boolean begins = "+-~0123456789".contains(first);
            Expect.same(first + " begins a part", begins ? 1 : 0, Made.with(first).firstError());
            Expect.same(first + " behind a part", first.equals(",") ? 3 : 2, Made.with("+1" + first).firstError());
            boolean digit = code >= '0' && code <= '9';
            Expect.same(first + " behind +", digit ? 2 : 1, Made.with("+" + first).firstError());
            Expect.same(first + " behind -", digit ? 2 : 1, Made.with("-" + first).firstError());
            Expect.same(first + " behind ~", code >= '0' && code <= '5' ? 2 : 1, Made.with("~" + first).firstError());
            Expect.same(first + " behind =", digit ? 3 : 2, Made.with("0=" + first).firstError());
            Expect.same(first + " behind 1", digit || code == '=' ? 2 : 1, Made.with("1" + first).firstError());
            boolean low = code >= '0' && code <= '3';
            Expect.same(first + " behind 2", low || code == '=' ? 2 : 1, Made.with("2" + first).firstError());
            Expect.same(first + " behind -2", low || code == COMMA ? 3 : 2, Made.with("-2" + first).firstError());
            Expect.same(first + " behind -0", code == COMMA ? 3 : 2, Made.with("-0" + first).firstError());
        }
    }

    private static void partsMeanTheirChanges() {
        SeenPages pages = Made.full();
        Made.type(pages, "-23,-0,~5,~0,+8,10=6");
        Expect.same("all are made", 6, pages.play());
        Expect.numbers("-23 and ~5, then 10=6", what -> pages.slot(23, what), 6, 28, 0, 1);
        Expect.numbers("-0 and ~0, then +8", what -> pages.slot(0, what), 8, 27, 0, 1);
        Expect.numbers("10=6", what -> pages.slot(10, what), 0, 11, 28, 0);
        Expect.numbers("marks: page", page -> pages.page(page, 0), 0, 0, 0, 0, 0, 0);
        Made.type(pages, "~1,~3");
        pages.play();
        Expect.numbers("~1 and ~3: page", page -> pages.page(page, 4), -1, 28, -1, 28, -1, -1);
        Made.type(pages, "-9,4=0");
        Expect.same("-9, and no empty slot", 1, pages.play());
        Expect.same("-9", 29, pages.slot(9, 2));
    }

    private static void errors() {
        error("", 0);
        error("+1,+1", 5);
        error("+1,,+1", 3);
        error("-24", 2);
        error("24=1", 1);
        error("-00", 2);
        error("~6", 1);
        error("x+1,y", 0);
        error("+1,y+z", 3);
        error("+1,23=4,5=,6", 10);
        error(SIXTY_WHOLE, 60);
        error(SIXTY_TO_GO_ON, 60);
        error(SIXTY_TO_GO_ON.substring(0, 59) + "x", 59);
        error(SIXTY_TO_GO_ON.substring(0, 59) + "+", 59);
        error(SIXTY_TO_GO_ON.substring(0, 57) + "-24", 59);
        for (String start : new String[] {"+", "-", "~", "0", "2", "23", "-2", "-23", "0=", "+1,", "23="}) {
            String ahead = "-12,-12,-12,".substring(0, 4 * (3 - start.length()));
            error(SIXTY_TO_GO_ON.substring(0, 60 - ahead.length() - start.length()) + ahead + start, 60);
        }
    }

    private static void error(String text, int due) {
        Expect.same("error of " + text, due, Made.with(text).firstError());
    }

    private static void append(Doc.Section it) {
        it.saysOfCall("`int append(int code) throws IllegalArgumentException, IllegalStateException`: Appends a character to the "
            + "buffer.", () -> {
            SeenPages pages = Made.with("~");
            pages.append('3');
            Expect.same("the text", 1, pages.play());
            Expect.same("~3", 3, pages.page(3, 4));
            SeenPages full = Made.with(SIXTY_TO_GO_ON.substring(0, 59));
            full.append('x');
            Expect.same("the last place", 59, full.firstError());
        });
        it.says("- `code`: the character code, 33 to 126", () -> {
            for (int code = 33; code <= 126; code++) {
                SeenPages pages = new SeenPages();
                Expect.same("code " + code, 1, pages.append(code));
                Expect.same("digest with " + code, FaceDigest.of(pages, String.valueOf((char) code)), pages.digest());
            }
        });
        it.says("Returns the new length of the buffer.", () -> {
            SeenPages pages = new SeenPages();
            for (int length = 1; length <= 60; length++) {
                Expect.same("length", length, pages.append(33 + length));
            }
        });
        it.says("Throws `IllegalArgumentException` if code is not 33 to 126", () -> {
            for (int code : new int[] {32, 127, 0, -1, 10, 128, 255, 256 + '+', 65536 + '+', -65536 + '+',
                Integer.MIN_VALUE, Integer.MAX_VALUE}) {
                Expect.refuses("code " + code, Expect.ARGUMENT, Made::lived, pages -> pages.append(code));
            }
        });
        it.says("Throws `IllegalStateException` if the buffer has 60 characters", () -> {
            Expect.refuses("a 61st", Expect.STATE, () -> Made.with(SIXTY_WHOLE), pages -> pages.append(COMMA));
            Expect.refuses("the least code", Expect.STATE, () -> Made.with(SIXTY_TO_GO_ON), pages -> pages.append(33));
            Expect.refuses("the greatest", Expect.STATE, () -> Made.with(SIXTY_TO_GO_ON), pages -> pages.append(126));
            Expect.same("not if it has 59", 60, Made.with(SIXTY_WHOLE.substring(0, 59)).append('9'));
        });
    }

    private static void clearBuffer(Doc.Section it) {
        it.saysOfCall("`int clearBuffer()`: Clears the buffer.", () -> {
            SeenPages pages = Made.with("x");
            pages.clearBuffer();
            Expect.same("it is as if nothing was typed", Made.few().digest(), pages.digest());
            Made.type(pages, "+3");
            Expect.same("what comes is read alone", 1, pages.play());
            SeenPages full = Made.with(SIXTY_WHOLE);
            full.clearBuffer();
            Expect.same("there is room", 1, full.append('+'));
            Expect.same("it is not saved", 3, full.count(12));
        });
        it.says("Returns the length that it had.", () -> {
            SeenPages pages = new SeenPages();
            Expect.same("empty", 0, pages.clearBuffer());
            pages.append('z');
            Expect.same("one", 1, pages.clearBuffer());
            Expect.same("empty again", 0, pages.clearBuffer());
            Expect.same("full", 60, Made.with(SIXTY_WHOLE).clearBuffer());
        });
    }

    private static void firstError(Doc.Section it) {
        it.saysOfCall("`int firstError()`: Finds the first syntax error of the buffer.", () -> {
            SeenPages pages = Made.with("+1,-24,~9,x");
            long before = pages.digest();
            Expect.same("of three", 5, pages.firstError());
            Expect.same("found again", 5, pages.firstError());
            Expect.same("nothing is changed", before, pages.digest());
        });
        it.says("Returns the index of the first character that is a syntax error; the length of the buffer if there is none.",
            () -> {
                error("x", 0);
                error("+x", 1);
                error("+1x", 2);
                error(SIXTY_WHOLE.substring(0, 59) + "x", 59);
                error("", 0);
                error("+", 1);
                error("+1", 2);
                error(SIXTY_WHOLE, 60);
                SeenPages pages = Made.with("x");
                pages.clearBuffer();
                Expect.same("cleared", 0, pages.firstError());
            });
    }

    private static void play(Doc.Section it) {
        it.saysOfCall("`int play() throws IllegalArgumentException`: Makes the changes in the buffer, one after the other, up to "
            + "the first one that is not possible, and clears the buffer.", TextSentences::playMakesChanges);
        it.says("Undoable, as one call, also if none is made.", () -> {
            Expect.undoable("three parts", () -> Made.with("+1,1=3,~0"), SeenPages::play);
            Expect.undoable("up to the second", () -> Made.with("~0,-9,+1"), SeenPages::play);
            Expect.undoable("none is made", () -> Made.with("-0"), SeenPages::play);
            Expect.undoable("none of a full table", TextSentences::fullWithAPut, SeenPages::play);
            Expect.undoable("with six states", () -> livedWith("1"), SeenPages::play);
        });
        it.says("Returns how many are made.", () -> {
            Expect.same("none", 0, Made.with("-0").play());
            Expect.same("one", 1, Made.with("-1").play());
            Expect.same("the second is not possible", 1, Made.with("-1,-1").play());
            Expect.same("a sweep is always possible", 3, Made.with("~0,~0,~5").play());
            Expect.same("sixty characters", 20, Made.with(SIXTY_WHOLE).play());
        });
    }

    private static SeenPages fullWithAPut() {
        SeenPages pages = Made.full();
        Made.type(pages, "+1");
        return pages;
    }

    /** The buffer of the lived one ends with "~". */
    private static SeenPages livedWith(String more) {
        SeenPages pages = Made.lived();
        Made.type(pages, more);
        return pages;
    }

    private static void playMakesChanges() {
        stopsAt("-0,+1", "", "it went");
        stopsAt("+1,-2,-2,+1", "+1,-2", "it goes on the way");
        stopsAt("+1,-9,+1", "+1", "an empty slot to take");
        stopsAt("1=4,1=5,+1", "1=4", "it was changed on the way");
        stopsAt("~0,9=1,+1", "~0", "an empty slot to change");
        stopsAt("0=1,~0", "", "it went, the sweep is not made");
        for (String text : new String[] {"+1", "0=1", "23=9"}) {
            SeenPages marked = Made.fullAndMarked();
            Made.type(marked, text);
            Expect.same("no empty slot: " + text, 0, marked.play());
            Expect.same("no mark is cleared by " + text, 6, marked.count(5));
        }
        SeenPages swept = Made.few();
        swept.sweepAll();
        Made.type(swept, "-0");
        Expect.same("nothing to take, no mark is cleared", 6, swept.play() + swept.count(5));
        SeenPages full = Made.fullBut(23);
        Made.type(full, "+7,+8,-0");
        Expect.same("no empty slot to put", 1, full.play());
        Expect.same("buffer", 0, full.clearBuffer());
        Made.type(full, "~0,0=8,-0");
        Expect.same("nor to change", 1, full.play());
        Made.type(full, "-0,~0,+8");
        Expect.same("but a swept one is", 3, full.play());
        Expect.same("the new version came by", 28, full.slot(0, 1));
        SeenPages held = Made.with("-1,~0");
        held.open(0);
        Expect.same("both are made", 2, held.play());
        Expect.same("the sweep is held back", 2, held.slot(1, 0));
        Expect.same("but for what went before", -1, held.slot(0, 0));
        SeenPages fresh = Made.with("-1,~0,+5,0=6");
        Expect.same("each sees what the one before made", 4, fresh.play());
        Expect.numbers("5", what -> fresh.slot(0, what), 5, 5, 6, 0);
        Expect.numbers("6", what -> fresh.slot(1, what), 6, 6, 0, 1);
    }

    /** Playing a text is as playing its possible parts alone, and the buffer is cleared. */
    private static void stopsAt(String text, String possible, String why) {
        SeenPages pages = Made.with(text);
        SeenPages twin = Made.with(possible);
        int made = pages.play();
        Expect.same(why + ": buffer", 0, pages.clearBuffer());
        if (possible.isEmpty()) {
            Expect.same(why + ": none", 0, made);
            Expect.note(why, Looks.butSaved(twin), Looks.butSaved(pages));
        } else {
            Expect.same(why + ": parts", twin.play(), made);
            Expect.alike(why, twin, pages);
        }
    }

    private static void playRefuses(Doc.Section it) {
        it.says("Throws `IllegalArgumentException` if the buffer is not complete changes as a text", () -> {
            String[] texts = {"", "+", "+1,", "+1,-", "0", "0=", "~", "~6", "-24", "24=1", "-00", ",", "+1,,+1", "x", "+1x",
                SIXTY_TO_GO_ON, SIXTY_WHOLE.substring(0, 59)};
            for (String text : texts) {
                Expect.refuses(text, Expect.ARGUMENT, () -> Made.with(text), SeenPages::play);
            }
            Expect.refuses("in a new object", Expect.ARGUMENT, Made::empty, SeenPages::play);
            Expect.refuses("with six states", Expect.ARGUMENT, Made::lived, SeenPages::play);
            Expect.refuses("not possible, and not whole", Expect.ARGUMENT, () -> Made.with("-9,+"), SeenPages::play);
            SeenPages again = Made.with("+1");
            again.play();
            Expect.throwsArgument("played, it is empty", again::play);
        });
    }
}

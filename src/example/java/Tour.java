/** A tour of the class: README.md shows it, and what it prints. */
public final class Tour {
    public static void main(String[] args) {
        SeenPages pages = new SeenPages();
        say("put(7)", pages.put(7), "the lowest empty slot");
        say("open(0)", pages.open(0), "asker 0 gets the clock as the snapshot");
        say("change(0, 3)", pages.change(0, 3), "the 7 in slot 0 went, a 3 came into slot 1");
        say("ask(0, 7, 1)", pages.ask(0, 7, 1), "asker 0 sees the 7 all the same");
        say("sweepAll()", pages.sweepAll(), "marked pages: page 0 is none of them");
        say("holder()", pages.holder(), "asker 0 holds it back");
        say("close(0)", pages.close(0), "the snapshot that it had");
        say("sweepAll()", pages.sweepAll(), "marked pages: the 7 is taken out, page 0 is marked, too");
        say("ifAsked(2, 3, 2, 0)", pages.ifAsked(2, 3, 2, 0), "how many 3 the snapshot 2 sees, by the way 2");
        say("ifAsked(2, 3, 2, 1)", pages.ifAsked(2, 3, 2, 1), "what it costs: the index alone answers");

        type(pages, "+4,1=5,-9");
        say("firstError()", pages.firstError(), "the length of the text: no error is in it");
        say("play()", pages.play(), "parts are made: slot 9 is empty, so -9 is not possible");
        say("undo()", pages.undo(), "saved states are left");
        say("count(3)", pages.count(3), "versions that the clock sees: the 3 alone, as before");
        try {
            pages.take(0);
        } catch (IllegalStateException refused) {
            System.out.println("take(0) is refused, and changes nothing: slot 0 is empty");
        }
    }

    private static void type(SeenPages pages, String text) {
        for (int index = 0; index < text.length(); index++) {
            pages.append(text.charAt(index));
        }
    }

    private static void say(String call, int answer, String what) {
        System.out.println(call + " = " + answer + ": " + what);
    }
}

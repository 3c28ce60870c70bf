/** Objects in states that many tests begin with: each call makes a new one, and always alike. */
final class Made {
    private Made() {
    }

    static SeenPages empty() {
        return new SeenPages();
    }

    /** Puts 0 to 9 over and over until no slot is empty: the value of a place is its last digit. */
    static SeenPages full() {
        SeenPages pages = new SeenPages();
        for (int place = 0; place < 24; place++) {
            pages.put(place % 10);
        }
        return pages;
    }

    /** No slot is empty: 24 versions with the same value. */
    static SeenPages fullOf(int value) {
        SeenPages pages = new SeenPages();
        for (int place = 0; place < 24; place++) {
            pages.put(value);
        }
        return pages;
    }

    /** All marked by the horizon 24, and no slot empty. */
    static SeenPages fullAndMarked() {
        SeenPages pages = full();
        pages.sweepAll();
        return pages;
    }

    /** No slot is empty but some, lowest first: their versions went, and were swept. */
    static SeenPages fullBut(int... places) {
        SeenPages pages = full();
        for (int place : places) {
            pages.take(place);
        }
        pages.sweepAll();
        return pages;
    }

    /**
     * Some of all. The clock is 8, and the horizon 6. Versions: 0 to 4 with 5 to 9, come by 1 to 5,
     * of which 0 went by 6 and 1 by 8; 5 with a 5, come by 7; 6 with a 3, come by 8. Page 3 is
     * marked by 5. Asker 2 has the snapshot 6, asker 0 has 7; each has asked once, at a cost of 1
     * by the way 1, and of 2 by the way 2. Six states are saved, and "+4,~" is in the buffer.
     */
    static SeenPages lived() {
        SeenPages pages = new SeenPages();
        put(pages, 5, 6, 7, 8, 9);
        pages.sweep(3);
        pages.take(0);
        pages.open(2);
        pages.put(5);
        pages.open(0);
        pages.change(1, 3);
        pages.ask(2, 6, 1);
        pages.ask(0, 5, 2);
        type(pages, "+4,~");
        return pages;
    }

    /** No asker is open; a 1 at place 0 came by 1 and went by 2; a 2 at place 1 came by 3. */
    static SeenPages few() {
        SeenPages pages = new SeenPages();
        pages.put(1);
        pages.take(0);
        pages.put(2);
        return pages;
    }

    static SeenPages with(String text) {
        SeenPages pages = few();
        type(pages, text);
        return pages;
    }

    static void put(SeenPages pages, int... values) {
        for (int value : values) {
            pages.put(value);
        }
    }

    static void type(SeenPages pages, String text) {
        for (int index = 0; index < text.length(); index++) {
            pages.append(text.charAt(index));
        }
    }
}

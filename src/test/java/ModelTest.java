/** All promises in long mixed runs: each answer against the model's, all looks behind each call. */
public final class ModelTest {
    private static final String[] PARTS = {"+", "-", "~", "=", ",", "0", "1", "2", "3", "4", "9", "x"};

    private long seed;
    private final SeenPages pages = new SeenPages();
    private final PlainModel model = new PlainModel();
    private final StringBuilder story = new StringBuilder();
    private boolean right = true;

    private ModelTest(long seed) {
        this.seed = seed;
    }

    public static void main(String[] args) {
        int calls = 0;
        for (int run = 1; run <= 400; run++) {
            calls += new ModelTest(run).run(run % 4);
        }
        System.out.println(calls + " calls");
        Expect.end();
    }

    private int run(int mood) {
        int calls = 0;
        while (calls < 512 && right) {
            calls += step(mood);
            if (calls % 3 == 0) {
                looks();
            }
        }
        looks();
        if (!right) {
            System.out.println(story);
        }
        return calls;
    }

    private int below(int end) {
        seed = seed * 6364136223846793005L + 1442695040888963407L;
        return (int) ((seed >>> 33) % end);
    }

    /** Mostly a number that the call takes, at times one outside. */
    private int number(int end) {
        return below(40) == 0 ? new int[] {-1, end, Integer.MIN_VALUE, Integer.MAX_VALUE}[below(4)] : below(end);
    }

    private void both(String call, Expect.Call due, Expect.Call got) {
        String wanted = Expect.told(due);
        String told = Expect.told(got);
        story.append(call).append(" -> ").append(wanted).append('\n');
        right &= wanted.equals(told);
        Expect.note(call, wanted, told);
    }

    private int step(int mood) {
        int place = number(24);
        int value = number(mood == 0 ? 10 : 3);
        value = value == 3 && mood != 0 ? 10 : value;
        int few = number(4);
        int page = number(6);
        int given = value;
        switch (below(mood == 1 ? 11 : 15)) {
            case 0, 1, 2:
                both("put " + given, () -> model.put(given), () -> pages.put(given));
                return 1;
            case 3:
                both("take " + place, () -> model.take(place), () -> pages.take(place));
                return 1;
            case 4, 5:
                both("change " + place + " " + given, () -> model.change(place, given), () -> pages.change(place, given));
                return 1;
            case 6:
                both("open " + few, () -> model.open(few), () -> pages.open(few));
                return 1;
            case 7:
                both("close " + few, () -> model.close(few), () -> pages.close(few));
                return 1;
            case 8:
                both("sweep " + page, () -> model.sweep(page), () -> pages.sweep(page));
                return 1;
            case 9:
                return ask(few, given);
            case 10:
                return mood == 2 ? ask(few, given) : sweepAll();
            case 11:
                return undo(mood);
            default:
                return mood == 3 ? ask(few, given) : text();
        }
    }

    private int ask(int asker, int value) {
        int way = number(3);
        both("ask " + asker + " " + value + " " + way, () -> model.ask(asker, value, way), () -> pages.ask(asker, value, way));
        return 1;
    }

    private int sweepAll() {
        both("sweepAll", () -> model.sweepAll(), () -> pages.sweepAll());
        return 1;
    }

    private int undo(int mood) {
        int times = 1 + below(mood == 0 ? 8 : 2);
        for (int time = 0; time < times; time++) {
            both("undo", () -> model.undo(), () -> pages.undo());
        }
        return times;
    }

    /** Types some characters, mostly whole parts, and mostly plays them. */
    private int text() {
        StringBuilder typed = new StringBuilder();
        int parts = below(5);
        for (int part = 0; part < parts; part++) {
            typed.append(part == 0 ? "" : ",").append(part());
        }
        if (below(5) == 0) {
            typed.append(PARTS[below(PARTS.length)]).append(PARTS[below(PARTS.length)]);
        }
        for (int index = 0; index < typed.length(); index++) {
            int code = typed.charAt(index);
            both("append " + code, () -> model.append(code), () -> pages.append(code));
        }
        both("firstError", () -> model.firstError(), () -> pages.firstError());
        if (below(4) > 0) {
            both("play", () -> model.play(), () -> pages.play());
        }
        if (below(3) > 0) {
            both("clearBuffer", () -> model.clearBuffer(), () -> pages.clearBuffer());
        }
        return typed.length() + 3;
    }

    private String part() {
        switch (below(5)) {
            case 0:
                return "-" + below(25);
            case 1:
                return "~" + below(6);
            case 2:
                return below(24) + "=" + below(10);
            default:
                return "+" + below(4);
        }
    }

    private void looks() {
        for (int place = 0; place < 24; place++) {
            for (int what = 0; what < 4; what++) {
                look("slot " + place + " " + what, model.slot(place, what), pages.slot(place, what));
            }
        }
        for (int page = 0; page < 6; page++) {
            for (int what = 0; what < 5; what++) {
                look("page " + page + " " + what, model.page(page, what), pages.page(page, what));
            }
        }
        for (int asker = 0; asker < 4; asker++) {
            for (int what = 0; what < 3; what++) {
                look("asker " + asker + " " + what, model.asker(asker, what), pages.asker(asker, what));
            }
        }
        for (int what = 0; what < 13; what++) {
            look("count " + what, model.count(what), pages.count(what));
        }
        look("holder", model.holder(), pages.holder());
        Expect.sameDouble("marked", model.marked(), pages.marked());
        wouldBe();
        Expect.same("digest", FaceDigest.of(pages, model.buffer()), pages.digest());
    }

    private void wouldBe() {
        int clock = model.count(0);
        for (int value = 0; value < 10; value++) {
            for (int at = 0; at < 6; at++) {
                int way = at / 2;
                int what = at % 2;
                int snapshot = below(3) == 0 ? clock : Math.max(0, clock - below(12));
                look("ifAsked " + snapshot + " " + value + " " + way + " " + what,
                    model.ifAsked(snapshot, value, way, what), pages.ifAsked(snapshot, value, way, what));
            }
            look("lies " + value, model.lies(value), pages.lies(value));
            look("cheapest " + value, model.cheapest(value), pages.cheapest(value));
        }
    }

    private void look(String what, long due, long got) {
        right &= due == got;
        Expect.same(what, due, got);
    }
}

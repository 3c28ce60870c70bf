/**
 * All promises in long mixed runs: each answer against the model's, and all that can be seen behind
 * each step. An object is used for 512 calls, and no more: the document promises nothing behind them.
 */
public final class ModelTest {
    private static final int RUNS = 1200;
    private static final int MOST_CALLS = 512;
    private static final String[] PARTS = {"+", "-", "~", "=", ",", "0", "1", "2", "3", "4", "9", "x"};

    private long seed;
    private final int mood;
    private final SeenPages pages = new SeenPages();
    private final PlainModel model = new PlainModel();
    private final StringBuilder story = new StringBuilder();
    private boolean right = true;
    private int calls;

    private ModelTest(long seed) {
        this.seed = seed;
        mood = (int) (seed % 4);
    }

    public static void main(String[] args) {
        for (int run = 1; run <= RUNS; run++) {
            new ModelTest(run).run();
        }
        Expect.end();
    }

    private void run() {
        while (calls < MOST_CALLS && right) {
            step();
            look();
            both("digest", model::digest, pages::digest);
        }
        if (!right) {
            System.out.println(story);
        }
    }

    private int below(int end) {
        seed = seed * 6364136223846793005L + 1442695040888963407L;
        return (int) ((seed >>> 33) % end);
    }

    /** Mostly a number that the call takes, at times one outside. */
    private int number(int end) {
        return below(40) == 0 ? new int[] {-1, end, Integer.MIN_VALUE, Integer.MAX_VALUE}[below(4)] : below(end);
    }

    private void both(String call, Expect.Call due, Expect.Call got) {
        if (calls == MOST_CALLS) {
            return;
        }
        calls++;
        String wanted = Expect.told(due);
        String told = Expect.told(got);
        story.append(call).append(" -> ").append(wanted).append('\n');
        right &= wanted.equals(told);
        Expect.note(call, wanted, told);
    }

    /** Few values in most moods, so that pages have several of one; all ten in the mood 0. */
    private int value() {
        int value = number(mood == 0 ? 10 : 3);
        return value == 3 && mood != 0 ? 10 : value;
    }

    private void step() {
        int place = number(24);
        int value = value();
        int few = number(4);
        int page = number(6);
        switch (below(mood == 1 ? 11 : 15)) {
            case 0, 1, 2:
                both("put " + value, () -> model.put(value), () -> pages.put(value));
                break;
            case 3:
                both("take " + place, () -> model.take(place), () -> pages.take(place));
                break;
            case 4, 5:
                both("change " + place + " " + value, () -> model.change(place, value), () -> pages.change(place, value));
                break;
            case 6:
                both("open " + few, () -> model.open(few), () -> pages.open(few));
                break;
            case 7:
                both("close " + few, () -> model.close(few), () -> pages.close(few));
                break;
            case 8:
                both("sweep " + page, () -> model.sweep(page), () -> pages.sweep(page));
                break;
            default:
                otherStep(few, value);
        }
    }

    private void otherStep(int asker, int value) {
        switch (below(6)) {
            case 0:
                both("sweepAll", model::sweepAll, pages::sweepAll);
                break;
            case 1:
                undo();
                break;
            case 2, 3:
                text();
                break;
            default:
                int way = number(3);
                both("ask " + asker + " " + value + " " + way,
                    () -> model.ask(asker, value, way), () -> pages.ask(asker, value, way));
        }
    }

    private void undo() {
        int times = 1 + below(mood == 0 ? 8 : 2);
        for (int time = 0; time < times; time++) {
            both("undo", model::undo, pages::undo);
        }
    }

    /** Types some characters, mostly whole parts, and mostly plays them. */
    private void text() {
        StringBuilder typed = new StringBuilder();
        int parts = below(mood == 2 ? 18 : 5);
        for (int part = 0; part < parts; part++) {
            typed.append(part == 0 ? "" : ",").append(part());
        }
        if (below(5) == 0) {
            typed.append(PARTS[below(PARTS.length)]).append(PARTS[below(PARTS.length)]);
        }
        for (int index = 0; index < typed.length(); index++) {
            int code = typed.charAt(index);
            both("append " + code, () -> model.append(code), () -> pages.append(code));
        }
        both("firstError", model::firstError, pages::firstError);
        if (below(4) > 0) {
            both("play", model::play, pages::play);
        }
        if (below(3) > 0) {
            both("clearBuffer", model::clearBuffer, pages::clearBuffer);
        }
    }

    private String part() {
        switch (below(5)) {
            case 0:
                return "-" + below(25);
            case 1:
                return "~" + below(6);
            case 2:
                return below(24) + "=" + below(10);
            default:
                return "+" + below(4);
        }
    }

    /** One look, or an answer that would be. */
    private void look() {
        int value = value();
        switch (below(11)) {
            case 0:
                lookByTwo("slot", number(24), number(4));
                break;
            case 1:
                lookByTwo("page", number(6), number(5));
                break;
            case 2:
                lookByTwo("asker", number(4), number(3));
                break;
            case 3:
                int what = number(13);
                both("count " + what, () -> model.count(what), () -> pages.count(what));
                break;
            case 4:
                both("lies " + value, () -> model.lies(value), () -> pages.lies(value));
                break;
            case 5:
                both("cheapest " + value, () -> model.cheapest(value), () -> pages.cheapest(value));
                break;
            case 6:
                both("marked", model::marked, pages::marked);
                break;
            case 7:
                both("holder", model::holder, pages::holder);
                break;
            default:
                wouldBe(value);
        }
    }

    private void lookByTwo(String name, int first, int what) {
        String call = name + " " + first + " " + what;
        switch (name) {
            case "slot":
                both(call, () -> model.slot(first, what), () -> pages.slot(first, what));
                break;
            case "page":
                both(call, () -> model.page(first, what), () -> pages.page(first, what));
                break;
            default:
                both(call, () -> model.asker(first, what), () -> pages.asker(first, what));
        }
    }

    private void wouldBe(int value) {
        int snapshot = below(5) == 0 ? number(model.count(0) + 1) : Math.max(0, model.count(0) - below(12));
        int way = number(3);
        int what = number(2);
        both("ifAsked " + snapshot + " " + value + " " + way + " " + what,
            () -> model.ifAsked(snapshot, value, way, what), () -> pages.ifAsked(snapshot, value, way, what));
    }
}

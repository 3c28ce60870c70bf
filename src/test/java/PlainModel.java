import java.util.ArrayDeque;
import java.util.ArrayList;
import java.util.Deque;
import java.util.List;
import java.util.TreeMap;
import java.util.regex.Pattern;
import java.util.stream.IntStream;

/**
 * The document once more, as plainly as the Java library allows, and with nothing of the class's
 * own form: versions in a sorted map, states that are copied whole, texts by a regular expression.
 */
final class PlainModel {
    private static final String PART = "(?:\\+[0-9]|-(?:1?[0-9]|2[0-3])|(?:1?[0-9]|2[0-3])=[0-9]|~[0-5])";
    private static final Pattern CHANGES = Pattern.compile(PART + "(?:," + PART + ")*");
    private static final String[] ENDINGS = {"", "0", "=0", "+0"};

    private record Version(int value, int came, int went) {
        boolean seenBy(int snapshot) {
            return came <= snapshot && (went == 0 || went > snapshot);
        }
    }

    private static final class Now {
        TreeMap<Integer, Version> slots = new TreeMap<>();
        TreeMap<Integer, Integer> marks = new TreeMap<>();
        TreeMap<Integer, Integer> snapshots = new TreeMap<>();
        List<int[]> questions = new ArrayList<>();
        int clock;
        int out;

        Now copy() {
            Now copy = new Now();
            copy.slots.putAll(slots);
            copy.marks.putAll(marks);
            copy.snapshots.putAll(snapshots);
            copy.questions.addAll(questions);
            copy.clock = clock;
            copy.out = out;
            return copy;
        }
    }

    private Now now = new Now();
    private final Deque<Now> saved = new ArrayDeque<>();
    private String buffer = "";

    private void save() {
        saved.addLast(now.copy());
        if (saved.size() > 6) {
            saved.removeFirst();
        }
    }

    private static void bounds(boolean fine) {
        if (!fine) {
            throw new IndexOutOfBoundsException();
        }
    }

    private static void argument(boolean fine) {
        if (!fine) {
            throw new IllegalArgumentException();
        }
    }

    private static void state(boolean fine) {
        if (!fine) {
            throw new IllegalStateException();
        }
    }

    private static boolean in(int number, int least, int greatest) {
        return least <= number && number <= greatest;
    }

    private int lowestEmpty() {
        int place = 0;
        while (now.slots.containsKey(place)) {
            place++;
        }
        return place;
    }

    private boolean hasSeen(int place) {
        Version version = now.slots.get(place);
        return version != null && version.seenBy(now.clock);
    }

    private void come(int place, int value) {
        now.slots.put(place, new Version(value, now.clock, 0));
        now.marks.remove(place / 4);
    }

    private void go(int place) {
        Version old = now.slots.get(place);
        now.slots.put(place, new Version(old.value(), old.came(), now.clock));
        now.marks.remove(place / 4);
    }

    private int makePut(int value) {
        int place = lowestEmpty();
        now.clock++;
        come(place, value);
        return place;
    }

    private void makeTake(int place) {
        now.clock++;
        go(place);
    }

    private int makeChange(int place, int value) {
        int empty = lowestEmpty();
        now.clock++;
        go(place);
        come(empty, value);
        return empty;
    }

    private int makeSweep(int page) {
        int before = now.slots.size();
        int horizon = horizonOf(now.snapshots);
        now.slots.entrySet().removeIf(e -> e.getKey() / 4 == page && wentBy(e.getValue(), horizon));
        boolean all = now.slots.entrySet().stream().filter(e -> e.getKey() / 4 == page)
            .allMatch(e -> e.getValue().came() <= horizon && e.getValue().went() == 0);
        if (all) {
            now.marks.put(page, horizon);
        }
        now.out += before - now.slots.size();
        return before - now.slots.size();
    }

    private static boolean wentBy(Version version, int horizon) {
        return version.went() != 0 && version.went() <= horizon;
    }

    private int horizonOf(TreeMap<Integer, Integer> snapshots) {
        return snapshots.values().stream().mapToInt(s -> s).min().orElse(now.clock);
    }

    int put(int value) {
        argument(in(value, 0, 9));
        state(now.slots.size() < 24);
        save();
        return makePut(value);
    }

    int take(int place) {
        bounds(in(place, 0, 23));
        state(hasSeen(place));
        save();
        makeTake(place);
        return now.slots.get(place).value();
    }

    int change(int place, int value) {
        bounds(in(place, 0, 23));
        argument(in(value, 0, 9));
        state(hasSeen(place) && now.slots.size() < 24);
        save();
        return makeChange(place, value);
    }

    int open(int asker) {
        bounds(in(asker, 0, 3));
        save();
        now.snapshots.put(asker, now.clock);
        return now.clock;
    }

    int close(int asker) {
        bounds(in(asker, 0, 3));
        state(now.snapshots.containsKey(asker));
        save();
        return now.snapshots.remove(asker);
    }

    int sweep(int page) {
        bounds(in(page, 0, 5));
        save();
        return makeSweep(page);
    }

    int sweepAll() {
        save();
        for (int page = 0; page < 6; page++) {
            makeSweep(page);
        }
        return now.marks.size();
    }

    private boolean asWithOne(int snapshot, int way) {
        return way == 2 && now.marks.values().stream().anyMatch(mark -> snapshot < mark);
    }

    private int answer(int snapshot, int value, int asked) {
        int way = asWithOne(snapshot, asked) ? 1 : asked;
        return (int) now.slots.entrySet().stream().filter(e -> e.getValue().value() == value)
            .filter(e -> way == 2 && now.marks.containsKey(e.getKey() / 4) || e.getValue().seenBy(snapshot))
            .count();
    }

    private int cost(int snapshot, int value, int asked) {
        int way = asWithOne(snapshot, asked) ? 1 : asked;
        if (way == 0) {
            return 6;
        }
        return (int) now.slots.entrySet().stream().filter(e -> e.getValue().value() == value)
            .map(e -> e.getKey() / 4).distinct()
            .filter(page -> way == 1 || !now.marks.containsKey(page)).count();
    }

    int ask(int asker, int value, int way) {
        bounds(in(asker, 0, 3));
        argument(in(value, 0, 9) && in(way, 0, 2));
        state(now.snapshots.containsKey(asker));
        save();
        int snapshot = now.snapshots.get(asker);
        int other = asWithOne(snapshot, way) ? 1 : 0;
        now.questions.add(new int[] {asker, way, cost(snapshot, value, way), other});
        return answer(snapshot, value, way);
    }

    int append(int code) {
        argument(in(code, 33, 126));
        state(buffer.length() < 60);
        buffer += (char) code;
        return buffer.length();
    }

    int clearBuffer() {
        int length = buffer.length();
        buffer = "";
        return length;
    }

    private static boolean canGoOn(String text) {
        for (String ending : ENDINGS) {
            if (CHANGES.matcher(text + ending).matches()) {
                return true;
            }
        }
        return false;
    }

    int firstError() {
        int end = 0;
        while (end < buffer.length() && canGoOn(buffer.substring(0, end + 1))) {
            end++;
        }
        return end;
    }

    int play() {
        argument(CHANGES.matcher(buffer).matches());
        save();
        int made = 0;
        for (String part : buffer.split(",")) {
            if (!make(part)) {
                break;
            }
            made++;
        }
        buffer = "";
        return made;
    }

    private boolean make(String part) {
        int equals = part.indexOf('=');
        int number = Integer.parseInt(equals < 0 ? part.substring(1) : part.substring(0, equals));
        boolean room = now.slots.size() < 24;
        if (equals >= 0) {
            boolean possible = room && hasSeen(number);
            if (possible) {
                makeChange(number, Integer.parseInt(part.substring(equals + 1)));
            }
            return possible;
        }
        switch (part.charAt(0)) {
            case '+':
                if (room) {
                    makePut(number);
                }
                return room;
            case '-':
                boolean seen = hasSeen(number);
                if (seen) {
                    makeTake(number);
                }
                return seen;
            default:
                makeSweep(number);
                return true;
        }
    }

    int undo() {
        state(!saved.isEmpty());
        now = saved.removeLast();
        return saved.size();
    }

    int slot(int place, int what) {
        bounds(in(place, 0, 23));
        argument(in(what, 0, 3));
        Version version = now.slots.get(place);
        if (version == null) {
            return what == 3 ? 0 : -1;
        }
        return new int[] {version.value(), version.came(), version.went(), hasSeen(place) ? 1 : 0}[what];
    }

    int page(int page, int what) {
        bounds(in(page, 0, 5));
        argument(in(what, 0, 4));
        List<Version> here = new ArrayList<>(now.slots.subMap(4 * page, 4 * page + 4).values());
        int horizon = horizonOf(now.snapshots);
        int seen = (int) here.stream().filter(v -> v.seenBy(now.clock)).count();
        int old = (int) here.stream().filter(v -> wentBy(v, horizon)).count();
        int mark = now.marks.getOrDefault(page, -1);
        return new int[] {mark < 0 ? 0 : 1, here.size(), seen, old, mark}[what];
    }

    int asker(int asker, int what) {
        bounds(in(asker, 0, 3));
        argument(in(what, 0, 2));
        Integer snapshot = now.snapshots.get(asker);
        int sees = snapshot == null ? -1 : seenBy(snapshot);
        int asked = (int) now.questions.stream().filter(q -> q[0] == asker).count();
        return new int[] {snapshot == null ? -1 : snapshot, sees, asked}[what];
    }

    private int seenBy(int snapshot) {
        return (int) now.slots.values().stream().filter(v -> v.seenBy(snapshot)).count();
    }

    int count(int what) {
        argument(in(what, 0, 12));
        int versions = now.slots.size();
        int costs = now.questions.stream().mapToInt(q -> q[2]).sum();
        int others = now.questions.stream().mapToInt(q -> q[3]).sum();
        return new int[] {now.clock, horizonOf(now.snapshots), versions, seenBy(now.clock), 24 - versions,
            now.marks.size(), askedBy(0), askedBy(1), askedBy(2), others, costs, now.out, saved.size()}[what];
    }

    private int askedBy(int way) {
        return (int) now.questions.stream().filter(q -> q[1] == way).count();
    }

    int ifAsked(int snapshot, int value, int way, int what) {
        argument(in(snapshot, 0, now.clock) && in(value, 0, 9) && in(way, 0, 2) && in(what, 0, 1));
        return what == 0 ? answer(snapshot, value, way) : cost(snapshot, value, way);
    }

    int lies(int value) {
        argument(in(value, 0, 9));
        int slots = (int) now.slots.values().stream().filter(v -> v.value() == value).count();
        return slots - answer(now.clock, value, 0);
    }

    int cheapest(int value) {
        argument(in(value, 0, 9));
        int best = 2;
        for (int way = 1; way >= 0; way--) {
            best = cost(now.clock, value, way) < cost(now.clock, value, best) ? way : best;
        }
        return best;
    }

    private int sweptBy(int horizon) {
        return (int) now.slots.values().stream().filter(v -> wentBy(v, horizon)).count();
    }

    int holder() {
        int with = sweptBy(horizonOf(now.snapshots));
        int best = -1;
        int most = 0;
        for (int asker : now.snapshots.keySet()) {
            TreeMap<Integer, Integer> others = new TreeMap<>(now.snapshots);
            others.remove(asker);
            int more = sweptBy(horizonOf(others)) - with;
            if (more > most) {
                most = more;
                best = asker;
            }
        }
        return best;
    }

    double marked() {
        return now.marks.size() / 6.0;
    }

    long digest() {
        List<Long> told = new ArrayList<>();
        IntStream.rangeClosed(0, 12).forEach(what -> told.add((long) count(what)));
        IntStream.range(0, 96).forEach(at -> told.add((long) slot(at / 4, at % 4)));
        IntStream.range(0, 30).forEach(at -> told.add((long) page(at / 5, at % 5)));
        IntStream.range(0, 12).forEach(at -> told.add((long) asker(at / 3, at % 3)));
        for (int value = 0; value < 10; value++) {
            for (int way = 0; way < 3; way++) {
                told.add((long) answer(now.clock, value, way));
                told.add((long) cost(now.clock, value, way));
            }
            told.add((long) lies(value));
            told.add((long) cheapest(value));
        }
        told.add((long) holder());
        told.add(Double.doubleToLongBits(marked()));
        told.add((long) buffer.length());
        buffer.chars().forEach(code -> told.add((long) code));
        return told.stream().reduce(3467L, (hash, number) -> 31 * hash + number);
    }
}

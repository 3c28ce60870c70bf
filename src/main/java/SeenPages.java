import java.util.Arrays;

/**
 * A table of pages whose rows have versions, with a map that marks the pages whose rows are seen
 * by all, so that an index alone may answer for them.
 */
public final class SeenPages {
    /** There is nothing to return. */
    public static final int NONE = -1;

    private static final int PAGES = 6;
    private static final int SLOTS_OF_A_PAGE = 4;
    private static final int PLACES = PAGES * SLOTS_OF_A_PAGE;
    private static final int VALUES = 10;
    private static final int ASKERS = 4;

    private static final int BY_SCAN = 0;
    private static final int BY_TABLE = 1;
    private static final int BY_MARKS = 2;
    private static final int WAYS = 3;

    private static final int SLOT_NUMBERS = 4;
    private static final int PAGE_NUMBERS = 5;
    private static final int ASKER_NUMBERS = 3;
    private static final int COUNTS = 13;
    private static final int ANSWER = 0;
    private static final int COST = 1;

    private static final int MOST_CHARACTERS = 60;
    private static final int LEAST_CODE = 33;
    private static final int GREATEST_CODE = 126;
    private static final int MOST_SAVED = 6;

    private static final char PUT = '+';
    private static final char TAKE = '-';
    private static final char CHANGE = '=';
    private static final char SWEEP = '~';
    private static final char COMMA = ',';
    private static final char NO_SIGN = 0;

    private static final long FIRST_HASH = 3467L;
    private static final int ONES_EXPONENT = 1023;
    private static final int FRACTION_BITS = 52;

    private final State state;
    private final History history;
    private final Text text;

    /** Creates an empty table without marks and snapshots, with the clock 0, and an empty buffer. */
    public SeenPages() {
        state = new State();
        history = new History();
        text = new Text();
    }

    // ---- changes

    /** Puts a value into the lowest empty slot, and returns its place. Undoable. */
    public int put(int value) throws IllegalArgumentException, IllegalStateException {
        if (isOutside(value, VALUES)) {
            throw new IllegalArgumentException("value is not 0 to 9");
        }
        if (!state.table.hasEmptySlot()) {
            throw new IllegalStateException("there is no empty slot");
        }
        history.save(state);
        return state.table.putValue(value);
    }

    /** Takes the version at a place away, and returns its value. Undoable. */
    public int take(int place) throws IndexOutOfBoundsException, IllegalStateException {
        if (isOutside(place, PLACES)) {
            throw new IndexOutOfBoundsException("place is not 0 to 23");
        }
        if (!state.table.isSeenNow(place)) {
            throw new IllegalStateException("no version there is seen by the clock");
        }
        history.save(state);
        state.table.takeAway(place);
        return state.table.values[place];
    }

    /** Changes the version at a place to a value, and returns the new version's place. Undoable. */
    public int change(int place, int value)
            throws IndexOutOfBoundsException, IllegalArgumentException, IllegalStateException {
        if (isOutside(place, PLACES)) {
            throw new IndexOutOfBoundsException("place is not 0 to 23");
        }
        if (isOutside(value, VALUES)) {
            throw new IllegalArgumentException("value is not 0 to 9");
        }
        if (!state.table.isSeenNow(place) || !state.table.hasEmptySlot()) {
            throw new IllegalStateException("no version there is seen by the clock, or no slot is empty");
        }
        history.save(state);
        return state.table.changeTo(place, value);
    }

    // ---- askers, sweeps

    /** Gives an asker the clock as the snapshot, and returns it. Undoable. */
    public int open(int asker) throws IndexOutOfBoundsException {
        if (isOutside(asker, ASKERS)) {
            throw new IndexOutOfBoundsException("asker is not 0 to 3");
        }
        history.save(state);
        state.askers.snapshots[asker] = state.table.clock;
        return state.table.clock;
    }

    /** Takes an asker's snapshot from it, and returns it. Undoable. */
    public int close(int asker) throws IndexOutOfBoundsException, IllegalStateException {
        if (isOutside(asker, ASKERS)) {
            throw new IndexOutOfBoundsException("asker is not 0 to 3");
        }
        int snapshot = state.askers.snapshots[asker];
        if (snapshot == NONE) {
            throw new IllegalStateException("the asker has no snapshot");
        }
        history.save(state);
        state.askers.snapshots[asker] = NONE;
        return snapshot;
    }

    /** Sweeps a page, and returns how many versions are taken out. Undoable. */
    public int sweep(int page) throws IndexOutOfBoundsException {
        if (isOutside(page, PAGES)) {
            throw new IndexOutOfBoundsException("page is not 0 to 5");
        }
        history.save(state);
        return state.table.sweepPage(page, state.horizon());
    }

    /** Sweeps all pages, and returns how many pages are marked then. Undoable, as one call. */
    public int sweepAll() {
        history.save(state);
        int horizon = state.horizon();
        for (int page = 0; page < PAGES; page++) {
            state.table.sweepPage(page, horizon);
        }
        return state.table.markedPages();
    }

    // ---- answers

    /** Answers how many versions with a value an asker sees, and counts the question. Undoable. */
    public int ask(int asker, int value, int way)
            throws IndexOutOfBoundsException, IllegalArgumentException, IllegalStateException {
        if (isOutside(asker, ASKERS)) {
            throw new IndexOutOfBoundsException("asker is not 0 to 3");
        }
        if (isOutside(value, VALUES) || isOutside(way, WAYS)) {
            throw new IllegalArgumentException("value is not 0 to 9, or way not 0 to 2");
        }
        int snapshot = state.askers.snapshots[asker];
        if (snapshot == NONE) {
            throw new IllegalStateException("the asker has no snapshot");
        }
        history.save(state);
        state.askers.asked[asker]++;
        state.tally.add(way, state.table.cost(snapshot, value, way), !state.table.mayTrustMarks(snapshot));
        return state.table.answer(snapshot, value, way);
    }

    // ---- texts

    /** Appends a character to the buffer, and returns the new length. */
    public int append(int code) throws IllegalArgumentException, IllegalStateException {
        if (code < LEAST_CODE || code > GREATEST_CODE) {
            throw new IllegalArgumentException("code is not 33 to 126");
        }
        if (text.length >= MOST_CHARACTERS) {
            throw new IllegalStateException("the buffer is full");
        }
        return text.add((char) code);
    }

    /** Clears the buffer, and returns the length that it had. */
    public int clearBuffer() {
        return text.wipe();
    }

    /** Returns the index of the buffer's first syntax error; its length if there is none. */
    public int firstError() {
        text.readAll();
        return text.at;
    }

    /** Makes the buffer's changes up to the first impossible one; returns how many. Undoable. */
    public int play() throws IllegalArgumentException {
        if (!text.readAll()) {
            throw new IllegalArgumentException("the buffer is not complete changes as a text");
        }
        history.save(state);
        int made = makeParts();
        text.wipe();
        return made;
    }

    /** Restores the latest saved state, drops it, and returns how many are left. */
    public int undo() throws IllegalStateException {
        if (history.size == 0) {
            throw new IllegalStateException("no state is saved");
        }
        history.restore(state);
        return history.size;
    }

    // ---- looks; nothing is changed or counted

    /** Returns something of a slot. */
    public int slot(int place, int what) throws IndexOutOfBoundsException, IllegalArgumentException {
        if (isOutside(place, PLACES)) {
            throw new IndexOutOfBoundsException("place is not 0 to 23");
        }
        if (isOutside(what, SLOT_NUMBERS)) {
            throw new IllegalArgumentException("what is not 0 to 3");
        }
        return slotNumber(place, what);
    }

    /** Returns something of a page. */
    public int page(int page, int what) throws IndexOutOfBoundsException, IllegalArgumentException {
        if (isOutside(page, PAGES)) {
            throw new IndexOutOfBoundsException("page is not 0 to 5");
        }
        if (isOutside(what, PAGE_NUMBERS)) {
            throw new IllegalArgumentException("what is not 0 to 4");
        }
        return pageNumber(page, what);
    }

    /** Returns something of an asker. */
    public int asker(int asker, int what) throws IndexOutOfBoundsException, IllegalArgumentException {
        if (isOutside(asker, ASKERS)) {
            throw new IndexOutOfBoundsException("asker is not 0 to 3");
        }
        if (isOutside(what, ASKER_NUMBERS)) {
            throw new IllegalArgumentException("what is not 0 to 2");
        }
        return askerNumber(asker, what);
    }

    /** Returns a number of the whole. */
    public int count(int what) throws IllegalArgumentException {
        if (isOutside(what, COUNTS)) {
            throw new IllegalArgumentException("what is not 0 to 12");
        }
        return countNumber(what);
    }

    // ---- what would be; nothing is changed or counted

    /** Tells what an answer would be, or cost, for any snapshot. */
    public int ifAsked(int snapshot, int value, int way, int what) throws IllegalArgumentException {
        if (snapshot < 0 || snapshot > state.table.clock) {
            throw new IllegalArgumentException("snapshot is not 0 to the clock");
        }
        if (isOutside(value, VALUES) || isOutside(way, WAYS)) {
            throw new IllegalArgumentException("value is not 0 to 9, or way not 0 to 2");
        }
        if (what == ANSWER) {
            return state.table.answer(snapshot, value, way);
        }
        if (what == COST) {
            return state.table.cost(snapshot, value, way);
        }
        throw new IllegalArgumentException("what is not 0 to 1");
    }

    /** Tells by how much an index alone would tell wrongly, without the table and without marks. */
    public int lies(int value) throws IllegalArgumentException {
        if (isOutside(value, VALUES)) {
            throw new IllegalArgumentException("value is not 0 to 9");
        }
        return state.table.wronglyTold(value);
    }

    /** Returns the way with the least cost for the clock, of several the greatest number. */
    public int cheapest(int value) throws IllegalArgumentException {
        if (isOutside(value, VALUES)) {
            throw new IllegalArgumentException("value is not 0 to 9");
        }
        return state.table.leastCostWay(value);
    }

    /** Returns the asker who holds back most versions from a sweep of all pages, or NONE. */
    public int holder() {
        return mostHolding();
    }

    /** Returns the share of the pages that are marked. */
    public double marked() {
        return markedShare();
    }

    /** Returns a hash of the whole state. */
    public long digest() {
        long hash = FIRST_HASH;
        for (int what = 0; what < COUNTS; what++) {
            hash = mix(hash, countNumber(what));
        }
        hash = mixParts(hash);
        for (int value = 0; value < VALUES; value++) {
            hash = mixValue(hash, value);
        }
        hash = mix(hash, mostHolding());
        hash = mix(hash, bitsOfShare(markedShare()));
        hash = mix(hash, text.length);
        for (int index = 0; index < text.length; index++) {
            hash = mix(hash, text.signAt(index));
        }
        return hash;
    }

    private static boolean isOutside(int number, int end) {
        return number < 0 || number >= end;
    }

    private int slotNumber(int place, int what) {
        Table table = state.table;
        switch (what) {
            case 0:
                return table.values[place];
            case 1:
                return table.cameBy[place];
            case 2:
                return table.wentBy[place];
            default:
                return table.isSeenNow(place) ? 1 : 0;
        }
    }

    private int pageNumber(int page, int what) {
        Table table = state.table;
        int from = page * SLOTS_OF_A_PAGE;
        int end = from + SLOTS_OF_A_PAGE;
        switch (what) {
            case 0:
                return table.isMarked(page) ? 1 : 0;
            case 1:
                return table.versions(from, end);
            case 2:
                return table.versionsSeen(from, end, table.clock);
            case 3:
                return table.versionsToTakeOut(from, end, state.horizon());
            default:
                return table.markedBy[page];
        }
    }

    private int askerNumber(int asker, int what) {
        int snapshot = state.askers.snapshots[asker];
        switch (what) {
            case 0:
                return snapshot;
            case 1:
                return snapshot == NONE ? NONE : state.table.versionsSeen(0, PLACES, snapshot);
            default:
                return state.askers.asked[asker];
        }
    }

    private int countNumber(int what) {
        Table table = state.table;
        switch (what) {
            case 0:
                return table.clock;
            case 1:
                return state.horizon();
            case 2:
                return table.versions(0, PLACES);
            case 3:
                return table.versionsSeen(0, PLACES, table.clock);
            case 4:
                return PLACES - table.versions(0, PLACES);
            case 5:
                return table.markedPages();
            case 6:
                return state.tally.asked[BY_SCAN];
            case 7:
                return state.tally.asked[BY_TABLE];
            case 8:
                return state.tally.asked[BY_MARKS];
            case 9:
                return state.tally.marksNotTrusted;
            case 10:
                return state.tally.costs;
            case 11:
                return table.takenOut;
            default:
                return history.size;
        }
    }

    private int mostHolding() {
        int holding = NONE;
        int most = state.table.versionsToTakeOut(0, PLACES, state.horizon());
        for (int asker = 0; asker < ASKERS; asker++) {
            int horizon = state.askers.horizonWithout(asker, state.table.clock);
            int freed = state.table.versionsToTakeOut(0, PLACES, horizon);
            if (freed > most) {
                most = freed;
                holding = asker;
            }
        }
        return holding;
    }

    private double markedShare() {
        return (double) state.table.markedPages() / PAGES;
    }

    private int makeParts() {
        int made = 0;
        text.rewind();
        for (int part = 0; part < MOST_CHARACTERS && text.readNext(); part++) {
            if (!state.make(text.kind, text.place, text.digit)) {
                return made;
            }
            made++;
        }
        return made;
    }

    private static long mix(long hash, long number) {
        return 31 * hash + number;
    }

    private long mixParts(long start) {
        long hash = start;
        for (int place = 0; place < PLACES; place++) {
            for (int what = 0; what < SLOT_NUMBERS; what++) {
                hash = mix(hash, slotNumber(place, what));
            }
        }
        for (int page = 0; page < PAGES; page++) {
            for (int what = 0; what < PAGE_NUMBERS; what++) {
                hash = mix(hash, pageNumber(page, what));
            }
        }
        for (int asker = 0; asker < ASKERS; asker++) {
            for (int what = 0; what < ASKER_NUMBERS; what++) {
                hash = mix(hash, askerNumber(asker, what));
            }
        }
        return hash;
    }

    private long mixValue(long start, int value) {
        Table table = state.table;
        long hash = start;
        for (int way = 0; way < WAYS; way++) {
            hash = mix(hash, table.answer(table.clock, value, way));
            hash = mix(hash, table.cost(table.clock, value, way));
        }
        hash = mix(hash, table.wronglyTold(value));
        return mix(hash, table.leastCostWay(value));
    }

    /**
     * The bits of a share from 0 to 1, put together by hand: the library that the program may use
     * has no Double. Doubling and taking 1 away are exact here, so no bit is lost.
     */
    private static long bitsOfShare(double share) {
        if (share <= 0.0) {
            return 0L;
        }
        double significand = share;
        int exponent = ONES_EXPONENT;
        for (; significand < 1.0 && exponent > 1; exponent--) {
            significand = significand * 2.0;
        }
        long fraction = (long) ((significand - 1.0) * (double) (1L << FRACTION_BITS));
        return ((long) exponent << FRACTION_BITS) + fraction;
    }

    /** The slots with their versions, the map of marks, and the clock. */
    private static final class Table {
        final int[] values = new int[PLACES];
        final int[] cameBy = new int[PLACES];
        final int[] wentBy = new int[PLACES];
        final int[] markedBy = new int[PAGES];
        int clock;
        int takenOut;

        Table() {
            Arrays.fill(values, NONE);
            Arrays.fill(cameBy, NONE);
            Arrays.fill(wentBy, NONE);
            Arrays.fill(markedBy, NONE);
        }

        void copyFrom(Table other) {
            System.arraycopy(other.values, 0, values, 0, PLACES);
            System.arraycopy(other.cameBy, 0, cameBy, 0, PLACES);
            System.arraycopy(other.wentBy, 0, wentBy, 0, PLACES);
            System.arraycopy(other.markedBy, 0, markedBy, 0, PAGES);
            clock = other.clock;
            takenOut = other.takenOut;
        }

        boolean isSeen(int place, int snapshot) {
            if (values[place] == NONE || cameBy[place] > snapshot) {
                return false;
            }
            return wentBy[place] == 0 || wentBy[place] > snapshot;
        }

        boolean isSeenNow(int place) {
            return isSeen(place, clock);
        }

        boolean isMarked(int page) {
            return markedBy[page] != NONE;
        }

        int lowestEmptySlot() {
            for (int place = 0; place < PLACES; place++) {
                if (values[place] == NONE) {
                    return place;
                }
            }
            return NONE;
        }

        boolean hasEmptySlot() {
            return lowestEmptySlot() != NONE;
        }

        /** Returns the place of the new version, NONE if the value cannot be put. */
        int putValue(int value) {
            int place = lowestEmptySlot();
            if (place == NONE) {
                return NONE;
            }
            clock++;
            come(place, value);
            return place;
        }

        /** Returns whether there was a version to take away. */
        boolean takeAway(int place) {
            if (!isSeenNow(place)) {
                return false;
            }
            clock++;
            go(place);
            return true;
        }

        /** Returns the place of the new version, NONE if there is nothing or no room to change. */
        int changeTo(int place, int value) {
            int empty = lowestEmptySlot();
            if (empty == NONE || !isSeenNow(place)) {
                return NONE;
            }
            clock++;
            go(place);
            come(empty, value);
            return empty;
        }

        private void come(int place, int value) {
            values[place] = value;
            cameBy[place] = clock;
            wentBy[place] = 0;
            markedBy[place / SLOTS_OF_A_PAGE] = NONE;
        }

        private void go(int place) {
            wentBy[place] = clock;
            markedBy[place / SLOTS_OF_A_PAGE] = NONE;
        }

        private boolean isToTakeOut(int place, int horizon) {
            return wentBy[place] > 0 && wentBy[place] <= horizon;
        }

        private boolean isSeenByAll(int place, int horizon) {
            return cameBy[place] <= horizon && wentBy[place] == 0;
        }

        private void empty(int place) {
            values[place] = NONE;
            cameBy[place] = NONE;
            wentBy[place] = NONE;
        }

        /** Returns how many versions are taken out. */
        int sweepPage(int page, int horizon) {
            int out = 0;
            boolean allSeen = true;
            int from = page * SLOTS_OF_A_PAGE;
            for (int place = from; place < from + SLOTS_OF_A_PAGE; place++) {
                if (isToTakeOut(place, horizon)) {
                    empty(place);
                    out++;
                } else if (values[place] != NONE && !isSeenByAll(place, horizon)) {
                    allSeen = false;
                }
            }
            if (allSeen) {
                markedBy[page] = horizon;
            }
            takenOut += out;
            return out;
        }

        int versions(int from, int end) {
            int versions = 0;
            for (int place = from; place < end; place++) {
                if (values[place] != NONE) {
                    versions++;
                }
            }
            return versions;
        }

        int versionsSeen(int from, int end, int snapshot) {
            int seen = 0;
            for (int place = from; place < end; place++) {
                if (isSeen(place, snapshot)) {
                    seen++;
                }
            }
            return seen;
        }

        int versionsToTakeOut(int from, int end, int horizon) {
            int out = 0;
            for (int place = from; place < end; place++) {
                if (isToTakeOut(place, horizon)) {
                    out++;
                }
            }
            return out;
        }

        int markedPages() {
            int marks = 0;
            for (int page = 0; page < PAGES; page++) {
                if (isMarked(page)) {
                    marks++;
                }
            }
            return marks;
        }

        /** A mark that is younger than the snapshot would tell of rows that it does not see. */
        boolean mayTrustMarks(int snapshot) {
            for (int page = 0; page < PAGES; page++) {
                if (markedBy[page] > snapshot) {
                    return false;
                }
            }
            return true;
        }

        int answer(int snapshot, int value, int way) {
            boolean byMarks = way == BY_MARKS && mayTrustMarks(snapshot);
            int seen = 0;
            for (int place = 0; place < PLACES; place++) {
                if (values[place] != value) {
                    continue;
                }
                if (byMarks && isMarked(place / SLOTS_OF_A_PAGE) || isSeen(place, snapshot)) {
                    seen++;
                }
            }
            return seen;
        }

        int cost(int snapshot, int value, int way) {
            if (way == BY_SCAN) {
                return PAGES;
            }
            boolean byMarks = way == BY_MARKS && mayTrustMarks(snapshot);
            int looked = 0;
            for (int page = 0; page < PAGES; page++) {
                if (indexHas(page, value) && !(byMarks && isMarked(page))) {
                    looked++;
                }
            }
            return looked;
        }

        private boolean indexHas(int page, int value) {
            int from = page * SLOTS_OF_A_PAGE;
            for (int place = from; place < from + SLOTS_OF_A_PAGE; place++) {
                if (values[place] == value) {
                    return true;
                }
            }
            return false;
        }

        int wronglyTold(int value) {
            int wrong = 0;
            for (int place = 0; place < PLACES; place++) {
                if (values[place] == value && !isSeenNow(place)) {
                    wrong++;
                }
            }
            return wrong;
        }

        int leastCostWay(int value) {
            int best = BY_SCAN;
            for (int way = BY_TABLE; way < WAYS; way++) {
                if (cost(clock, value, way) <= cost(clock, value, best)) {
                    best = way;
                }
            }
            return best;
        }
    }

    /** The askers' snapshots, and how much each has asked. */
    private static final class Askers {
        final int[] snapshots = new int[ASKERS];
        final int[] asked = new int[ASKERS];

        Askers() {
            Arrays.fill(snapshots, NONE);
        }

        void copyFrom(Askers other) {
            System.arraycopy(other.snapshots, 0, snapshots, 0, ASKERS);
            System.arraycopy(other.asked, 0, asked, 0, ASKERS);
        }

        /** The horizon as if one asker had no snapshot; with NONE nobody is left out. */
        int horizonWithout(int leftOut, int clock) {
            int least = clock;
            for (int asker = 0; asker < ASKERS; asker++) {
                if (asker != leftOut && snapshots[asker] != NONE && snapshots[asker] < least) {
                    least = snapshots[asker];
                }
            }
            return least;
        }
    }

    /** The questions asked so far, by their ways, and what they cost. */
    private static final class Tally {
        final int[] asked = new int[WAYS];
        int marksNotTrusted;
        int costs;

        void copyFrom(Tally other) {
            System.arraycopy(other.asked, 0, asked, 0, WAYS);
            marksNotTrusted = other.marksNotTrusted;
            costs = other.costs;
        }

        void add(int way, int cost, boolean distrust) {
            asked[way]++;
            costs += cost;
            if (way == BY_MARKS && distrust) {
                marksNotTrusted++;
            }
        }
    }

    /** All that an undo brings back. */
    private static final class State {
        final Table table = new Table();
        final Askers askers = new Askers();
        final Tally tally = new Tally();

        void copyFrom(State other) {
            table.copyFrom(other.table);
            askers.copyFrom(other.askers);
            tally.copyFrom(other.tally);
        }

        int horizon() {
            return askers.horizonWithout(NONE, table.clock);
        }

        /** Makes a part of a text, and returns whether it is possible. */
        boolean make(char kind, int place, int digit) {
            switch (kind) {
                case PUT:
                    return table.putValue(digit) != NONE;
                case TAKE:
                    return table.takeAway(place);
                case CHANGE:
                    return table.changeTo(place, digit) != NONE;
                default:
                    table.sweepPage(digit, horizon());
                    return true;
            }
        }
    }

    /** The saved states: a ring of rows that are made once, and written over and over. */
    private static final class History {
        private final State[] rows = new State[MOST_SAVED];
        private int next;
        int size;

        History() {
            for (int row = 0; row < MOST_SAVED; row++) {
                rows[row] = new State();
            }
        }

        void save(State state) {
            rows[next].copyFrom(state);
            next = (next + 1) % MOST_SAVED;
            if (size < MOST_SAVED) {
                size++;
            }
        }

        void restore(State state) {
            if (size == 0) {
                return;
            }
            size--;
            next = (next + MOST_SAVED - 1) % MOST_SAVED;
            state.copyFrom(rows[next]);
        }
    }

    /** The buffer, and a reader that goes over it from part to part. */
    private static final class Text {
        private final char[] signs = new char[MOST_CHARACTERS];
        int length;

        int at;
        char kind;
        int place;
        int digit;

        int add(char sign) {
            if (length < MOST_CHARACTERS) {
                signs[length] = sign;
                length++;
            }
            return length;
        }

        int wipe() {
            int before = length;
            length = 0;
            return before;
        }

        char signAt(int index) {
            return index >= 0 && index < length ? signs[index] : NO_SIGN;
        }

        void rewind() {
            at = 0;
        }

        /**
         * Returns whether the buffer is complete changes. The reader stands at the first syntax
         * error then, or at the end: whatever it has read can be gone on with to a complete text.
         */
        boolean readAll() {
            rewind();
            boolean whole = readNext();
            for (int parts = 1; whole && at < length && parts < MOST_CHARACTERS; parts++) {
                whole = readNext();
            }
            return whole;
        }

        /** Reads a part, behind a comma if it is not the first, and returns whether it is whole. */
        boolean readNext() {
            if (at > 0 && !readSign(COMMA)) {
                return false;
            }
            char first = signAt(at);
            switch (first) {
                case PUT:
                    kind = PUT;
                    at++;
                    return readDigit(VALUES);
                case TAKE:
                    kind = TAKE;
                    at++;
                    return readPlace();
                case SWEEP:
                    kind = SWEEP;
                    at++;
                    return readDigit(PAGES);
                default:
                    kind = CHANGE;
                    return readPlace() && readSign(CHANGE) && readDigit(VALUES);
            }
        }

        private boolean readSign(char due) {
            if (signAt(at) != due) {
                return false;
            }
            at++;
            return true;
        }

        private boolean readDigit(int end) {
            int here = digitHere();
            if (here == NONE || here >= end) {
                return false;
            }
            digit = here;
            at++;
            return true;
        }

        private boolean readPlace() {
            int first = digitHere();
            if (first == NONE) {
                return false;
            }
            place = first;
            at++;
            int second = digitHere();
            if (first > 0 && second != NONE && 10 * first + second < PLACES) {
                place = 10 * first + second;
                at++;
            }
            return true;
        }

        private int digitHere() {
            char sign = signAt(at);
            return sign >= '0' && sign <= '9' ? sign - '0' : NONE;
        }
    }
}

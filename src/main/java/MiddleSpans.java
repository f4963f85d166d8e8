import java.util.Arrays;

/**
 * An index of spans on a line that is kept by middles, with walkers who are told what covers them.
 *
 * All rows are made with the object and used again by every call, so that a call makes nothing new.
 */
public final class MiddleSpans {
    /** There is no such span (a removed one is none) or walker. */
    public static final int UNKNOWN = -1;
    /** Another argument is out of range. */
    public static final int BAD_VALUE = -2;
    /** There is no more room. */
    public static final int FULL = -3;
    /** This is not possible. */
    public static final int NOT_POSSIBLE = -4;
    /** There is no such thing; not an error. */
    public static final int NONE = -5;

    private static final int END = 1000;
    private static final int PLACES = END + 1;
    // A set of spans is kept as the bits of one long, which has room for this many.
    private static final int MOST_SPANS = 60;
    private static final int MOST_WALKERS = 6;
    private static final int MOST_SPEED = 50;
    private static final int SPEED_SHIFT = 1000;
    private static final int LAST_TICK = 9999;
    private static final int MOST_TICKS = 100;
    private static final int TICKS_AHEAD = 200;
    private static final int MOST_CHARACTERS = 60;
    private static final int FAULT_SHIFT = -100;
    private static final int NO_FAULT = -1;
    private static final int MOST_STATES = 4;
    private static final int MOST_EVENTS = 12;
    private static final int ENTERS = 0;
    private static final int LEAVES = 1;
    private static final int TURNS = 2;
    // Halving 1001 places ends behind ten nodes; the bound only has to stand above that.
    private static final int MOST_LEVELS = 16;

    private final Line line;
    private final History history;
    private final State snapshot;
    private final Text text;
    private final Reader reader;
    private boolean kept;

    /** Creates a line without spans and walkers, at the tick 0. */
    public MiddleSpans() {
        line = new Line();
        history = new History();
        snapshot = new State();
        text = new Text();
        reader = new Reader();
    }

    // ---- spans

    /**
     * Adds a span both of whose ends belong to it. This is an act.
     *
     * @param left 0 to 1000
     * @param right left to 1000
     * @return its number; BAD_VALUE; FULL if there have been 60
     */
    public int add(int left, int right) {
        if (!isPlace(left) || !isPlace(right) || right < left) {
            return BAD_VALUE;
        }
        if (line.state.spans.size >= MOST_SPANS) {
            return FULL;
        }
        history.record(line.state);
        return line.addSpan(left, right, true, true);
    }

    /**
     * Adds the spans of the text, which stays, one after the other; all of them, or none. This is one act.
     *
     * @return how many there are; -100 minus the fault of the text if it has one (which is an error);
     *     BAD_VALUE if any of them has an end greater than 1000, its right end is less than its left one,
     *     or it has no place; FULL if there would have been more than 60
     */
    public int readSpans() {
        int fault = reader.readRow(text);
        if (fault != NO_FAULT) {
            return FAULT_SHIFT - fault;
        }
        if (!reader.allAreSpans()) {
            return BAD_VALUE;
        }
        if (line.state.spans.size + reader.size > MOST_SPANS) {
            return FULL;
        }
        history.record(line.state);
        for (int i = 0; i < reader.size; i++) {
            line.addSpan(reader.left[i], reader.right[i], reader.leftBelongs[i], reader.rightBelongs[i]);
        }
        return reader.size;
    }

    /**
     * Removes a span. This is an act.
     *
     * @param span a span
     * @return how many walkers leave it; UNKNOWN
     */
    public int remove(int span) {
        if (!line.state.spans.has(span)) {
            return UNKNOWN;
        }
        history.record(line.state);
        return line.removeSpan(span);
    }

    /**
     * Moves both ends of a span. This is an act.
     *
     * @param span a span
     * @param by -1000 to 1000, not 0
     * @return how many walkers leave or enter it; UNKNOWN; BAD_VALUE; NOT_POSSIBLE if an end would be
     *     outside of the line
     */
    public int move(int span, int by) {
        Spans spans = line.state.spans;
        if (!spans.has(span)) {
            return UNKNOWN;
        }
        if (by < -END || by > END || by == 0) {
            return BAD_VALUE;
        }
        if (!isPlace(spans.left[span] + by) || !isPlace(spans.right[span] + by)) {
            return NOT_POSSIBLE;
        }
        history.record(line.state);
        return line.moveSpan(span, by);
    }

    // ---- walkers

    /**
     * Lets a walker come. This is an act.
     *
     * @param place 0 to 1000
     * @param speed -50 to 50
     * @return the number of the walker; BAD_VALUE; FULL if there are 6
     */
    public int come(int place, int speed) {
        if (!isPlace(place) || !isSpeed(speed)) {
            return BAD_VALUE;
        }
        if (line.state.walkers.size >= MOST_WALKERS) {
            return FULL;
        }
        history.record(line.state);
        return line.addWalker(place, speed);
    }

    /**
     * Puts a walker somewhere else. This is an act.
     *
     * @param walker a walker
     * @param place 0 to 1000
     * @return how many spans the walker leaves and enters; UNKNOWN; BAD_VALUE; NONE if the walker is
     *     there already
     */
    public int put(int walker, int place) {
        Walkers walkers = line.state.walkers;
        if (!walkers.has(walker)) {
            return UNKNOWN;
        }
        if (!isPlace(place)) {
            return BAD_VALUE;
        }
        if (walkers.place[walker] == place) {
            return NONE;
        }
        history.record(line.state);
        return line.putWalker(walker, place);
    }

    /**
     * Gives a walker another speed. This is an act.
     *
     * @param walker a walker
     * @param speed -50 to 50
     * @return 1000 plus the previous one; UNKNOWN; BAD_VALUE; NONE if it is so already
     */
    public int speed(int walker, int speed) {
        Walkers walkers = line.state.walkers;
        if (!walkers.has(walker)) {
            return UNKNOWN;
        }
        if (!isSpeed(speed)) {
            return BAD_VALUE;
        }
        int previous = walkers.speed[walker];
        if (previous == speed) {
            return NONE;
        }
        history.record(line.state);
        walkers.speed[walker] = speed;
        return SPEED_SHIFT + previous;
    }

    /**
     * Lets ticks pass. This is an act.
     *
     * @param ticks 1 to 100
     * @return how many spans are entered or left in them; BAD_VALUE; NOT_POSSIBLE if the tick would
     *     become more than 9999
     */
    public int pass(int ticks) {
        if (ticks < 1 || ticks > MOST_TICKS) {
            return BAD_VALUE;
        }
        if (line.state.tick + ticks > LAST_TICK) {
            return NOT_POSSIBLE;
        }
        history.record(line.state);
        int changes = 0;
        for (int i = 0; i < ticks; i++) {
            changes += line.passTick();
        }
        return changes;
    }

    // ---- texts

    /**
     * Types a character behind the text.
     *
     * @param character any character
     * @return the length of the text then; FULL if it has 60 characters
     */
    public int type(char character) {
        return text.append(character) ? text.length : FULL;
    }

    /**
     * Empties the text.
     *
     * @return the length that it had
     */
    public int clearText() {
        int had = text.length;
        text.length = 0;
        return had;
    }

    // ---- history

    /**
     * Removes and restores the latest state of the history.
     *
     * @return the number of states that are left; NONE if the history is empty
     */
    public int undo() {
        State latest = history.takeLatest();
        if (latest == null) {
            return NONE;
        }
        line.become(latest);
        return history.size;
    }

    /**
     * Takes a snapshot of the state, in place of the one that was.
     *
     * @return the number of spans that are there
     */
    public int keep() {
        snapshot.copyFrom(line.state);
        kept = true;
        return snapshot.spans.countThere();
    }

    /**
     * Restores the state of the snapshot, which stays. This is an act.
     *
     * @return the number of spans that are there then; NONE if there is no snapshot
     */
    public int restore() {
        if (!kept) {
            return NONE;
        }
        history.record(line.state);
        line.become(snapshot);
        return line.state.spans.countThere();
    }

    // ---- what is told

    /**
     * @param span a span
     * @param what 0 for the left end, 1 for the right end, 2 for the first place, 3 for the last place,
     *     4 for the middle of its node, 5 for the depth of its node, 6 for the walkers who are inside now,
     *     7 for the ticks that walkers were inside so far (all together), 8 for how often it was entered
     *     so far
     * @return the number; UNKNOWN; BAD_VALUE
     */
    public int span(int span, int what) {
        Spans spans = line.state.spans;
        if (!spans.has(span)) {
            return UNKNOWN;
        }
        switch (what) {
            case 0:
                return spans.left[span];
            case 1:
                return spans.right[span];
            case 2:
                return spans.first[span];
            case 3:
                return spans.last[span];
            case 4:
                return line.tree.middleOf[span];
            case 5:
                return line.tree.depthOf[span];
            case 6:
                return line.state.walkers.countInside(span);
            case 7:
                return spans.ticksInside[span];
            case 8:
                return spans.timesEntered[span];
            default:
                return BAD_VALUE;
        }
    }

    /**
     * @param walker a walker
     * @param what 0 for the place, 1 for 1000 plus the speed, 2 for the spans that the walker is inside of,
     *     3 for those that the walker has entered so far, 4 for those left so far, 5 for the ticks since
     *     the walker entered the span that was entered longest ago, of those that the walker is inside of
     *     (NONE if there is none), 6 for the number of that span (of several the lowest; NONE likewise),
     *     7 for the length of the way so far (in each tick as much as the speed without its sign), 8 for
     *     the turns so far
     * @return the number; UNKNOWN; BAD_VALUE
     */
    public int walker(int walker, int what) {
        Walkers walkers = line.state.walkers;
        if (!walkers.has(walker)) {
            return UNKNOWN;
        }
        switch (what) {
            case 0:
                return walkers.place[walker];
            case 1:
                return SPEED_SHIFT + walkers.speed[walker];
            case 2:
                return Long.bitCount(walkers.inside[walker]);
            case 3:
                return walkers.entered[walker];
            case 4:
                return walkers.left[walker];
            case 5:
                return ticksInOldest(walker);
            case 6:
                return walkers.oldestSpan(walker);
            case 7:
                return walkers.way[walker];
            case 8:
                return walkers.turns[walker];
            default:
                return BAD_VALUE;
        }
    }

    /**
     * @param walker a walker
     * @param place a place in the row of the spans that the walker is inside of, by their numbers, from 0
     * @return the span; UNKNOWN; BAD_VALUE if place is negative; NONE if there are not so many
     */
    public int inside(int walker, int place) {
        Walkers walkers = line.state.walkers;
        if (!walkers.has(walker)) {
            return UNKNOWN;
        }
        if (place < 0) {
            return BAD_VALUE;
        }
        return memberAt(walkers.inside[walker], place);
    }

    /**
     * @param place 0 to 1000
     * @param what 0 for the spans that cover it, 1 for the nodes on the way as it is asked, 2 for the spans
     *     that are looked at, 3 for the lowest number of the spans that cover it (NONE if none does), 4 for
     *     that of them that has the fewest places (of several the lowest number; NONE likewise)
     * @return the number; BAD_VALUE
     */
    public int ask(int place, int what) {
        if (!isPlace(place)) {
            return BAD_VALUE;
        }
        switch (what) {
            case 0:
                return Long.bitCount(line.cover.over(place));
            case 1:
                return line.tree.nodesOnWay(place);
            case 2:
                return line.tree.spansLookedAt(place, line.state.spans);
            case 3:
                return memberAt(line.cover.over(place), 0);
            case 4:
                return line.state.spans.shortestOf(line.cover.over(place));
            default:
                return BAD_VALUE;
        }
    }

    /**
     * Finds the next free place.
     *
     * @param place 0 to 1000
     * @param right whether it is looked for to the right, otherwise to the left
     * @return the nearest place from this one on (itself included) that no span covers; BAD_VALUE; NONE if
     *     there is none
     */
    public int free(int place, boolean right) {
        if (!isPlace(place)) {
            return BAD_VALUE;
        }
        return right ? line.cover.freeToTheRight(place) : line.cover.freeToTheLeft(place);
    }

    /**
     * @param what 0 for the place that is covered by the most spans (of several the lowest), 1 for how many
     *     these are, 2 for how many places are covered by none
     * @return the number; BAD_VALUE
     */
    public int most(int what) {
        switch (what) {
            case 0:
                return line.cover.fullestPlace();
            case 1:
                return Long.bitCount(line.cover.over(line.cover.fullestPlace()));
            case 2:
                return line.cover.countFree();
            default:
                return BAD_VALUE;
        }
    }

    /**
     * Tells in how many ticks a walker enters or leaves a span for the first time, if only ticks pass.
     *
     * @param walker a walker
     * @return the ticks, 1 to 200; UNKNOWN; NONE if there is none in 200
     */
    public int changesIn(int walker) {
        if (!line.state.walkers.has(walker)) {
            return UNKNOWN;
        }
        return line.ticksToChange(walker);
    }

    /**
     * Tells in how many ticks two walkers are at one place for the first time, behind a tick, if only
     * ticks pass.
     *
     * @param walker a walker
     * @param other another walker
     * @return the ticks, 0 to 200 (0 if they are so now); UNKNOWN (walker or other); BAD_VALUE if both are
     *     the same; NONE if they are not within 200
     */
    public int meetIn(int walker, int other) {
        if (!line.state.walkers.has(walker) || !line.state.walkers.has(other)) {
            return UNKNOWN;
        }
        if (walker == other) {
            return BAD_VALUE;
        }
        return line.state.walkers.ticksToMeet(walker, other);
    }

    /**
     * @param what 0 for the nodes, 1 for the greatest depth of a node, 2 for the most spans in one node,
     *     3 for the middle of the node with the most spans (of several the lowest) (all of these: NONE if
     *     there is no span)
     * @return the number; BAD_VALUE
     */
    public int index(int what) {
        if (what < 0 || what > 3) {
            return BAD_VALUE;
        }
        if (line.state.spans.countThere() == 0) {
            return NONE;
        }
        switch (what) {
            case 0:
                return line.tree.countNodes();
            case 1:
                return line.tree.greatestDepth(line.state.spans);
            case 2:
                return line.tree.mostInOneNode();
            default:
                return line.tree.fullestMiddle();
        }
    }

    /**
     * Looks back at the log.
     *
     * @param back 0 for the latest event, 1 for the one before, and so on
     * @param what 0 for its kind, 1 for its walker, 2 for its span (of 2: the place behind the turn),
     *     3 for its tick
     * @return the number; BAD_VALUE (back is negative, or what); NONE if there is none
     */
    public int event(int back, int what) {
        if (back < 0 || what < 0 || what > 3) {
            return BAD_VALUE;
        }
        Log log = line.state.log;
        if (back >= log.size) {
            return NONE;
        }
        int slot = log.slotOf(back);
        switch (what) {
            case 0:
                return log.kind[slot];
            case 1:
                return log.walker[slot];
            case 2:
                return log.subject[slot];
            default:
                return log.tick[slot];
        }
    }

    /**
     * @param what 0 for the tick, 1 for spans so far, 2 for spans that are there, 3 for walkers, 4 for what
     *     was entered so far, 5 for what was left so far, 6 for pairs of spans that are there and have a
     *     place in common, 7 for spans that any walker is inside of, 8 for the different first places of
     *     spans that are there and their different last places together (a place that is both counts
     *     twice), 9 for the states in the history, 10 for the length of the text
     * @return the number; BAD_VALUE
     */
    public int count(int what) {
        State state = line.state;
        switch (what) {
            case 0:
                return state.tick;
            case 1:
                return state.spans.size;
            case 2:
                return state.spans.countThere();
            case 3:
                return state.walkers.size;
            case 4:
                return sumOf(state.walkers.entered, state.walkers.size);
            case 5:
                return sumOf(state.walkers.left, state.walkers.size);
            case 6:
                return state.spans.countPairs();
            case 7:
                return Long.bitCount(state.walkers.insideOfAny());
            case 8:
                return state.spans.countDifferent(state.spans.first)
                        + state.spans.countDifferent(state.spans.last);
            case 9:
                return history.size;
            case 10:
                return text.length;
            default:
                return BAD_VALUE;
        }
    }

    private int ticksInOldest(int walker) {
        Walkers walkers = line.state.walkers;
        int oldest = walkers.oldestSpan(walker);
        return oldest == NONE ? NONE : line.state.tick - walkers.enteredAt[walker][oldest];
    }

    private static boolean isPlace(int place) {
        return place >= 0 && place <= END;
    }

    private static boolean isSpeed(int speed) {
        return speed >= -MOST_SPEED && speed <= MOST_SPEED;
    }

    private static boolean isMember(long set, int span) {
        return (set >>> span & 1L) != 0L;
    }

    private static int memberAt(long set, int position) {
        int before = 0;
        for (int span = 0; span < MOST_SPANS; span++) {
            if (isMember(set, span)) {
                if (before == position) {
                    return span;
                }
                before++;
            }
        }
        return NONE;
    }

    private static int sumOf(int[] numbers, int size) {
        int sum = 0;
        for (int i = 0; i < size && i < numbers.length; i++) {
            sum += numbers[i];
        }
        return sum;
    }

    private static boolean turnsNext(int place, int speed) {
        return !isPlace(place + speed);
    }

    private static int nextPlace(int place, int speed) {
        int next = place + speed;
        if (next < 0) {
            return -next;
        }
        return next > END ? 2 * END - next : next;
    }

    private static int nextSpeed(int place, int speed) {
        return turnsNext(place, speed) ? -speed : speed;
    }

    /** All spans that there have been; a removed one keeps its row, so that no number is given twice. */
    private static final class Spans {
        int size;
        private long there;
        final int[] left = new int[MOST_SPANS];
        final int[] right = new int[MOST_SPANS];
        final int[] first = new int[MOST_SPANS];
        final int[] last = new int[MOST_SPANS];
        final int[] ticksInside = new int[MOST_SPANS];
        final int[] timesEntered = new int[MOST_SPANS];

        boolean has(int span) {
            return span >= 0 && span < size && isThere(span);
        }

        boolean isThere(int span) {
            return isMember(there, span);
        }

        int append(int leftEnd, int rightEnd, boolean leftBelongs, boolean rightBelongs) {
            if (size >= MOST_SPANS) {
                return FULL;
            }
            int span = size;
            size++;
            there |= 1L << span;
            left[span] = leftEnd;
            right[span] = rightEnd;
            first[span] = leftBelongs ? leftEnd : leftEnd + 1;
            last[span] = rightBelongs ? rightEnd : rightEnd - 1;
            return span;
        }

        void shift(int span, int by) {
            left[span] += by;
            right[span] += by;
            first[span] += by;
            last[span] += by;
        }

        void takeAway(int span) {
            there &= ~(1L << span);
        }

        int countThere() {
            return Long.bitCount(there);
        }

        int shortestOf(long set) {
            int shortest = NONE;
            int fewest = PLACES + 1;
            for (int span = 0; span < size; span++) {
                int places = last[span] - first[span] + 1;
                if (isMember(set, span) && places < fewest) {
                    shortest = span;
                    fewest = places;
                }
            }
            return shortest;
        }

        int countPairs() {
            int pairs = 0;
            for (int span = 0; span < size; span++) {
                for (int other = 0; other < span; other++) {
                    if (isThere(span) && isThere(other)
                            && first[span] <= last[other] && first[other] <= last[span]) {
                        pairs++;
                    }
                }
            }
            return pairs;
        }

        int countDifferent(int[] places) {
            int different = 0;
            for (int span = 0; span < size && span < places.length; span++) {
                if (isThere(span) && !occursBefore(places, span)) {
                    different++;
                }
            }
            return different;
        }

        private boolean occursBefore(int[] places, int span) {
            for (int other = 0; other < span; other++) {
                if (isThere(other) && places[other] == places[span]) {
                    return true;
                }
            }
            return false;
        }

        void copyFrom(Spans other) {
            size = other.size;
            there = other.there;
            System.arraycopy(other.left, 0, left, 0, MOST_SPANS);
            System.arraycopy(other.right, 0, right, 0, MOST_SPANS);
            System.arraycopy(other.first, 0, first, 0, MOST_SPANS);
            System.arraycopy(other.last, 0, last, 0, MOST_SPANS);
            System.arraycopy(other.ticksInside, 0, ticksInside, 0, MOST_SPANS);
            System.arraycopy(other.timesEntered, 0, timesEntered, 0, MOST_SPANS);
        }
    }

    private static final class Walkers {
        int size;
        final int[] place = new int[MOST_WALKERS];
        final int[] speed = new int[MOST_WALKERS];
        final long[] inside = new long[MOST_WALKERS];
        final int[] entered = new int[MOST_WALKERS];
        final int[] left = new int[MOST_WALKERS];
        final int[] way = new int[MOST_WALKERS];
        final int[] turns = new int[MOST_WALKERS];
        final int[][] enteredAt = new int[MOST_WALKERS][MOST_SPANS];

        boolean has(int walker) {
            return walker >= 0 && walker < size;
        }

        int append(int atPlace, int withSpeed) {
            if (size >= MOST_WALKERS) {
                return FULL;
            }
            int walker = size;
            size++;
            place[walker] = atPlace;
            speed[walker] = withSpeed;
            return walker;
        }

        boolean stepTurns(int walker) {
            int from = place[walker];
            int by = speed[walker];
            boolean turned = turnsNext(from, by);
            place[walker] = nextPlace(from, by);
            speed[walker] = nextSpeed(from, by);
            way[walker] += Math.abs(by);
            if (turned) {
                turns[walker]++;
            }
            return turned;
        }

        int countInside(int span) {
            int count = 0;
            for (int walker = 0; walker < size; walker++) {
                if (isMember(inside[walker], span)) {
                    count++;
                }
            }
            return count;
        }

        long insideOfAny() {
            long set = 0L;
            for (int walker = 0; walker < size; walker++) {
                set |= inside[walker];
            }
            return set;
        }

        int oldestSpan(int walker) {
            int oldest = NONE;
            int since = LAST_TICK + 1;
            for (int span = 0; span < MOST_SPANS; span++) {
                if (isMember(inside[walker], span) && enteredAt[walker][span] < since) {
                    oldest = span;
                    since = enteredAt[walker][span];
                }
            }
            return oldest;
        }

        int ticksToMeet(int walker, int other) {
            int place1 = place[walker];
            int speed1 = speed[walker];
            int place2 = place[other];
            int speed2 = speed[other];
            for (int ticks = 0; ticks <= TICKS_AHEAD; ticks++) {
                if (place1 == place2) {
                    return ticks;
                }
                int from1 = place1;
                place1 = nextPlace(from1, speed1);
                speed1 = nextSpeed(from1, speed1);
                int from2 = place2;
                place2 = nextPlace(from2, speed2);
                speed2 = nextSpeed(from2, speed2);
            }
            return NONE;
        }

        void copyFrom(Walkers other) {
            size = other.size;
            System.arraycopy(other.place, 0, place, 0, MOST_WALKERS);
            System.arraycopy(other.speed, 0, speed, 0, MOST_WALKERS);
            System.arraycopy(other.inside, 0, inside, 0, MOST_WALKERS);
            System.arraycopy(other.entered, 0, entered, 0, MOST_WALKERS);
            System.arraycopy(other.left, 0, left, 0, MOST_WALKERS);
            System.arraycopy(other.way, 0, way, 0, MOST_WALKERS);
            System.arraycopy(other.turns, 0, turns, 0, MOST_WALKERS);
            for (int walker = 0; walker < MOST_WALKERS; walker++) {
                System.arraycopy(other.enteredAt[walker], 0, enteredAt[walker], 0, MOST_SPANS);
            }
        }
    }

    /** The latest events, in a ring. */
    private static final class Log {
        int size;
        private int latest;
        final int[] kind = new int[MOST_EVENTS];
        final int[] walker = new int[MOST_EVENTS];
        final int[] subject = new int[MOST_EVENTS];
        final int[] tick = new int[MOST_EVENTS];

        void write(int ofKind, int ofWalker, int ofSubject, int atTick) {
            latest = Math.floorMod(latest + 1, MOST_EVENTS);
            kind[latest] = ofKind;
            walker[latest] = ofWalker;
            subject[latest] = ofSubject;
            tick[latest] = atTick;
            if (size < MOST_EVENTS) {
                size++;
            }
        }

        int slotOf(int back) {
            return Math.floorMod(latest - back, MOST_EVENTS);
        }

        void copyFrom(Log other) {
            size = other.size;
            latest = other.latest;
            System.arraycopy(other.kind, 0, kind, 0, MOST_EVENTS);
            System.arraycopy(other.walker, 0, walker, 0, MOST_EVENTS);
            System.arraycopy(other.subject, 0, subject, 0, MOST_EVENTS);
            System.arraycopy(other.tick, 0, tick, 0, MOST_EVENTS);
        }
    }

    /**
     * What the document calls a state: all that the history and the snapshot bring back. Rows are copied whole,
     * those that are not in use too, so that a row that is not in use always holds zeros: whoever comes next
     * finds nothing there of one who was undone.
     */
    private static final class State {
        int tick;
        final Spans spans = new Spans();
        final Walkers walkers = new Walkers();
        final Log log = new Log();

        void copyFrom(State other) {
            tick = other.tick;
            spans.copyFrom(other.spans);
            walkers.copyFrom(other.walkers);
            log.copyFrom(other.log);
        }
    }

    private static final class History {
        int size;
        private final State[] states = new State[MOST_STATES];

        History() {
            for (int i = 0; i < MOST_STATES; i++) {
                states[i] = new State();
            }
        }

        void record(State state) {
            if (size >= MOST_STATES) {
                dropOldest();
            }
            State slot = states[size];
            if (slot != null) {
                slot.copyFrom(state);
                size++;
            }
        }

        // The dropped state's object comes behind the others, to be written over by the next one.
        private void dropOldest() {
            State oldest = states[0];
            for (int i = 1; i < MOST_STATES; i++) {
                states[i - 1] = states[i];
            }
            states[MOST_STATES - 1] = oldest;
            size = MOST_STATES - 1;
        }

        State takeLatest() {
            if (size < 1) {
                return null;
            }
            size--;
            return states[size];
        }
    }

    /** Which spans cover each place: told by the spans alone, so it is no part of a state. */
    private static final class Cover {
        private final long[] sets = new long[PLACES];

        void build(Spans spans) {
            Arrays.fill(sets, 0L);
            for (int span = 0; span < spans.size; span++) {
                if (spans.isThere(span)) {
                    flip(spans.first[span], span);
                    flip(spans.last[span] + 1, span);
                }
            }
            // Each place has the flips at it alone so far; with those ahead of it they are its set.
            for (int place = 1; place < PLACES; place++) {
                sets[place] ^= sets[place - 1];
            }
        }

        private void flip(int place, int span) {
            if (isPlace(place)) {
                sets[place] ^= 1L << span;
            }
        }

        long over(int place) {
            return isPlace(place) ? sets[place] : 0L;
        }

        int freeToTheRight(int from) {
            for (int place = Math.max(from, 0); place <= END; place++) {
                if (sets[place] == 0L) {
                    return place;
                }
            }
            return NONE;
        }

        int freeToTheLeft(int from) {
            for (int place = Math.min(from, END); place >= 0; place--) {
                if (sets[place] == 0L) {
                    return place;
                }
            }
            return NONE;
        }

        int fullestPlace() {
            int fullest = 0;
            for (int place = 1; place < PLACES; place++) {
                if (Long.bitCount(sets[place]) > Long.bitCount(sets[fullest])) {
                    fullest = place;
                }
            }
            return fullest;
        }

        int countFree() {
            int count = 0;
            for (int place = 0; place < PLACES; place++) {
                if (sets[place] == 0L) {
                    count++;
                }
            }
            return count;
        }
    }

    /** The way from the root to a node; no two nodes have the same middle, so a middle names its node. */
    private static final class Way {
        private int lowest;
        private int highest;
        int middle;
        int depth;

        void start() {
            lowest = 0;
            highest = END;
            middle = halfway(lowest, highest);
            depth = 0;
        }

        void goLeft() {
            highest = middle - 1;
            middle = halfway(lowest, highest);
            depth++;
        }

        void goRight() {
            lowest = middle + 1;
            middle = halfway(lowest, highest);
            depth++;
        }

        boolean hasPlaces() {
            return lowest <= highest;
        }

        private static int halfway(int low, int high) {
            return (low + high) / 2;
        }
    }

    /** The nodes, by their middles: told by the spans alone, so they are no part of a state. */
    private static final class Tree {
        final int[] middleOf = new int[MOST_SPANS];
        final int[] depthOf = new int[MOST_SPANS];
        private final int[] lying = new int[PLACES];
        // How many ways to spans go through the node or end in it: it is there if any does.
        private final int[] ways = new int[PLACES];
        private final Way way = new Way();

        void build(Spans spans) {
            Arrays.fill(lying, 0);
            Arrays.fill(ways, 0);
            for (int span = 0; span < spans.size; span++) {
                if (spans.isThere(span)) {
                    lay(span, spans.first[span], spans.last[span]);
                }
            }
        }

        private void lay(int span, int first, int last) {
            way.start();
            for (int level = 0; level < MOST_LEVELS && way.hasPlaces(); level++) {
                int middle = way.middle;
                ways[middle]++;
                if (last < middle) {
                    way.goLeft();
                } else if (first > middle) {
                    way.goRight();
                } else {
                    lying[middle]++;
                    middleOf[span] = middle;
                    depthOf[span] = way.depth;
                    return;
                }
            }
        }

        int nodesOnWay(int place) {
            way.start();
            int nodes = 0;
            for (int level = 0; level < MOST_LEVELS && isNode(); level++) {
                nodes++;
                if (!goTowards(place)) {
                    break;
                }
            }
            return nodes;
        }

        int spansLookedAt(int place, Spans spans) {
            way.start();
            int looked = 0;
            for (int level = 0; level < MOST_LEVELS && isNode(); level++) {
                looked += lookedAtIn(way.middle, place, spans);
                if (!goTowards(place)) {
                    break;
                }
            }
            return looked;
        }

        private boolean isNode() {
            return way.hasPlaces() && ways[way.middle] > 0;
        }

        private boolean goTowards(int place) {
            if (place == way.middle) {
                return false;
            }
            if (place < way.middle) {
                way.goLeft();
            } else {
                way.goRight();
            }
            return true;
        }

        // In the order that is looked through, those that reach the place stand ahead of all others, so
        // that just one of the others is looked at, if there is one; no order has to be kept for that.
        private int lookedAtIn(int middle, int place, Spans spans) {
            int reaching = 0;
            for (int span = 0; span < spans.size; span++) {
                if (spans.isThere(span) && middleOf[span] == middle && reaches(spans, span, place, middle)) {
                    reaching++;
                }
            }
            return Math.min(reaching + 1, lying[middle]);
        }

        private static boolean reaches(Spans spans, int span, int place, int middle) {
            if (place < middle) {
                return spans.first[span] <= place;
            }
            return place == middle || spans.last[span] >= place;
        }

        int countNodes() {
            int nodes = 0;
            for (int middle = 0; middle < PLACES; middle++) {
                if (ways[middle] > 0) {
                    nodes++;
                }
            }
            return nodes;
        }

        // A node without spans is on the way to a deeper one, so the deepest one has a span.
        int greatestDepth(Spans spans) {
            int greatest = 0;
            for (int span = 0; span < spans.size; span++) {
                if (spans.isThere(span)) {
                    greatest = Math.max(greatest, depthOf[span]);
                }
            }
            return greatest;
        }

        int fullestMiddle() {
            int fullest = 0;
            for (int middle = 1; middle < PLACES; middle++) {
                if (lying[middle] > lying[fullest]) {
                    fullest = middle;
                }
            }
            return fullest;
        }

        int mostInOneNode() {
            return lying[fullestMiddle()];
        }
    }

    /** The state as it is now, with what its spans tell, and all that changes it while telling the walkers. */
    private static final class Line {
        final State state = new State();
        final Cover cover = new Cover();
        final Tree tree = new Tree();

        void become(State other) {
            state.copyFrom(other);
            layOut();
        }

        private void layOut() {
            cover.build(state.spans);
            tree.build(state.spans);
        }

        int addSpan(int left, int right, boolean leftBelongs, boolean rightBelongs) {
            int span = state.spans.append(left, right, leftBelongs, rightBelongs);
            layOut();
            tellAll();
            return span;
        }

        int removeSpan(int span) {
            state.spans.takeAway(span);
            layOut();
            return tellAll();
        }

        int moveSpan(int span, int by) {
            state.spans.shift(span, by);
            layOut();
            return tellAll();
        }

        int addWalker(int place, int speed) {
            int walker = state.walkers.append(place, speed);
            tellAll();
            return walker;
        }

        int putWalker(int walker, int place) {
            state.walkers.place[walker] = place;
            return tell(walker);
        }

        int passTick() {
            state.tick++;
            int changes = 0;
            for (int walker = 0; walker < state.walkers.size; walker++) {
                if (state.walkers.stepTurns(walker)) {
                    state.log.write(TURNS, walker, state.walkers.place[walker], state.tick);
                }
                changes += tell(walker);
            }
            countTickInside();
            return changes;
        }

        private void countTickInside() {
            for (int walker = 0; walker < state.walkers.size; walker++) {
                for (int span = 0; span < state.spans.size; span++) {
                    if (isMember(state.walkers.inside[walker], span)) {
                        state.spans.ticksInside[span]++;
                    }
                }
            }
        }

        private int tellAll() {
            int changes = 0;
            for (int walker = 0; walker < state.walkers.size; walker++) {
                changes += tell(walker);
            }
            return changes;
        }

        private int tell(int walker) {
            long before = state.walkers.inside[walker];
            long now = cover.over(state.walkers.place[walker]);
            if (before == now) {
                return 0;
            }
            for (int span = 0; span < state.spans.size; span++) {
                if (isMember(before & ~now, span)) {
                    tellLeft(walker, span);
                }
            }
            for (int span = 0; span < state.spans.size; span++) {
                if (isMember(now & ~before, span)) {
                    tellEntered(walker, span);
                }
            }
            state.walkers.inside[walker] = now;
            return Long.bitCount(before ^ now);
        }

        private void tellLeft(int walker, int span) {
            state.walkers.left[walker]++;
            state.log.write(LEAVES, walker, span, state.tick);
        }

        private void tellEntered(int walker, int span) {
            state.walkers.entered[walker]++;
            state.walkers.enteredAt[walker][span] = state.tick;
            state.spans.timesEntered[span]++;
            state.log.write(ENTERS, walker, span, state.tick);
        }

        int ticksToChange(int walker) {
            int place = state.walkers.place[walker];
            int speed = state.walkers.speed[walker];
            long before = cover.over(place);
            for (int ticks = 1; ticks <= TICKS_AHEAD; ticks++) {
                int from = place;
                place = nextPlace(from, speed);
                speed = nextSpeed(from, speed);
                if (cover.over(place) != before) {
                    return ticks;
                }
            }
            return NONE;
        }
    }

    private static final class Text {
        int length;
        private final char[] characters = new char[MOST_CHARACTERS];

        boolean append(char character) {
            if (length >= MOST_CHARACTERS) {
                return false;
            }
            characters[length] = character;
            length++;
            return true;
        }

        boolean hasAt(int position, char character) {
            return position >= 0 && position < length && characters[position] == character;
        }

        boolean hasDigitAt(int position) {
            return position >= 0 && position < length
                    && characters[position] >= '0' && characters[position] <= '9';
        }

        int digitAt(int position) {
            return hasDigitAt(position) ? characters[position] - '0' : 0;
        }
    }

    /** Reads a row of spans; where it stops ahead of the end, there is the fault. */
    private static final class Reader {
        private static final int MOST_DIGITS = 4;
        private static final int NO_NUMBER = -1;
        // The shortest span has five characters.
        private static final int MOST_READ = MOST_CHARACTERS / 5;

        int size;
        final int[] left = new int[MOST_READ];
        final int[] right = new int[MOST_READ];
        final boolean[] leftBelongs = new boolean[MOST_READ];
        final boolean[] rightBelongs = new boolean[MOST_READ];
        private int position;

        int readRow(Text text) {
            size = 0;
            position = 0;
            for (int i = 0; i < MOST_READ; i++) {
                if (!readOne(text, i)) {
                    return position;
                }
                size++;
                if (position == text.length) {
                    return NO_FAULT;
                }
                if (!readSign(text, ';')) {
                    return position;
                }
            }
            return position;
        }

        private boolean readOne(Text text, int i) {
            leftBelongs[i] = text.hasAt(position, '[');
            if (!leftBelongs[i] && !text.hasAt(position, '(')) {
                return false;
            }
            position++;
            left[i] = readNumber(text);
            if (left[i] == NO_NUMBER || !readSign(text, ',')) {
                return false;
            }
            right[i] = readNumber(text);
            if (right[i] == NO_NUMBER) {
                return false;
            }
            rightBelongs[i] = text.hasAt(position, ']');
            return readSign(text, rightBelongs[i] ? ']' : ')');
        }

        private boolean readSign(Text text, char sign) {
            if (!text.hasAt(position, sign)) {
                return false;
            }
            position++;
            return true;
        }

        // It stops behind a zero in front, so that a digit there is a fault like any other sign.
        private int readNumber(Text text) {
            int number = 0;
            int digits = 0;
            while (digits < MOST_DIGITS && text.hasDigitAt(position) && (digits == 0 || number > 0)) {
                number = 10 * number + text.digitAt(position);
                digits++;
                position++;
            }
            return digits == 0 ? NO_NUMBER : number;
        }

        boolean allAreSpans() {
            for (int i = 0; i < size; i++) {
                int first = leftBelongs[i] ? left[i] : left[i] + 1;
                int last = rightBelongs[i] ? right[i] : right[i] - 1;
                if (left[i] > END || right[i] > END || right[i] < left[i] || first > last) {
                    return false;
                }
            }
            return true;
        }
    }
}

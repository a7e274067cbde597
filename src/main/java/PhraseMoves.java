import java.util.Arrays;

/**
 * Phrases and intervals in a text of 30 places. The document is ../shared/DOC.md; its words in
 * capitals (PLACE, ASK, SLOT, CHOICE, MOVED, ..) are used here in the same sense.
 */
public final class PhraseMoves {
    private static final int NO_SUCH = -1;
    private static final int OUTSIDE = -2;
    private static final int THERE_IS_NONE = -3;
    private static final int NO_ROOM = -4;

    private static final int PLACES = 30;
    private static final int TERMS = 10;
    private static final int ALL_TERMS = (1 << TERMS) - 1;

    private static final int MOST_ASKS = 30;
    private static final int MOST_NUMBER = 30;
    /** Greater than every end, so that the lesser of two ends is the one that is there. */
    private static final int NO_END = PLACES;

    private static final int TERM = 0;
    private static final int EITHER = 1;
    private static final int BEHIND = 2;
    private static final int NEAR = 3;
    private static final int BOTH = 4;
    private static final int HOLDING = 5;
    private static final int IN = 6;
    private static final int OVER = 7;
    private static final int FAR = 8;
    private static final int FIRST = 9;
    private static final int GROWN = 10;

    private static final int MOST_SLOTS = 4;
    private static final int MOST_OFFSET = 9;
    private static final int MOST_SLOP = 9;
    /** PLACE less OFFSET lies in -9 .. 29; two SLOTS at each end are MOVED by twice that width. */
    private static final int MOST_MOVED = 2 * (PLACES - 1 + MOST_OFFSET);
    private static final int NO_CHOICE = MOST_MOVED + 1;
    private static final long FULL_WEIGHT = 2520L;

    private final int[] text;
    private final AskList asks;
    private final Phrase phrase;

    public PhraseMoves() {
        text = new int[PLACES];
        asks = new AskList();
        phrase = new Phrase();
    }

    public int put(int place, int set) {
        if (!isPlace(place)) {
            return NO_SUCH;
        }
        if (!isSet(set)) {
            return OUTSIDE;
        }
        int before = text[place];
        text[place] = set;
        textHasChanged();
        return before;
    }

    public int clear() {
        int filled = 0;
        for (int place = 0; place < PLACES; place++) {
            if (text[place] != 0) {
                filled++;
            }
            text[place] = 0;
        }
        textHasChanged();
        return filled;
    }

    public int ask(int kind, int a, int b, int n) {
        if (!isKind(kind)) {
            return OUTSIDE;
        }
        if (countsNumber(kind) && !isNumberOf(kind, n)) {
            return OUTSIDE;
        }
        if (countsFirst(kind) && !asks.has(a)) {
            return NO_SUCH;
        }
        if (countsSecond(kind) && !asks.has(b)) {
            return NO_SUCH;
        }
        return asks.append(kind, countsFirst(kind) ? a : 0, countsSecond(kind) ? b : 0,
                countsNumber(kind) ? n : 0);
    }

    public int forget() {
        return asks.dropAll();
    }

    public int count(int ask) {
        if (!asks.has(ask)) {
            return NO_SUCH;
        }
        return asks.rowOf(ask, text).size();
    }

    public int begin(int ask, int k) {
        if (!asks.has(ask)) {
            return NO_SUCH;
        }
        return asks.rowOf(ask, text).beginOf(k);
    }

    public int end(int ask, int k) {
        if (!asks.has(ask)) {
            return NO_SUCH;
        }
        return asks.rowOf(ask, text).endOf(k);
    }

    public int covered(int ask) {
        if (!asks.has(ask)) {
            return NO_SUCH;
        }
        return asks.rowOf(ask, text).placesCovered();
    }

    public int slot(int offset, int set) {
        if (offset < 0 || offset > MOST_OFFSET || !isSet(set)) {
            return OUTSIDE;
        }
        return phrase.append(offset, set);
    }

    public int unslot() {
        return phrase.dropAll();
    }

    public int matches(int slop) {
        if (!isSlop(slop)) {
            return OUTSIDE;
        }
        phrase.settle(text);
        return phrase.choicesUpTo(slop);
    }

    public long weight(int slop) {
        if (!isSlop(slop)) {
            return OUTSIDE;
        }
        phrase.settle(text);
        return phrase.weightUpTo(slop);
    }

    public int least() {
        phrase.settle(text);
        return phrase.hasChoice() ? phrase.leastMoved() : THERE_IS_NONE;
    }

    public int chosen(int slot) {
        if (!phrase.has(slot)) {
            return NO_SUCH;
        }
        phrase.settle(text);
        return phrase.hasChoice() ? phrase.placeInFirst(slot) : THERE_IS_NONE;
    }

    public int ties() {
        phrase.settle(text);
        return phrase.hasChoice() ? phrase.choicesMovedBy(phrase.leastMoved()) : 0;
    }

    public int shortest(int end) {
        if (end != 0 && end != 1) {
            return OUTSIDE;
        }
        phrase.settle(text);
        if (!phrase.hasChoice()) {
            return THERE_IS_NONE;
        }
        return end == 0 ? phrase.shortestBegin() : phrase.shortestEnd();
    }

    private void textHasChanged() {
        asks.outdate();
        phrase.outdate();
    }

    private static boolean isPlace(int place) {
        return place >= 0 && place < PLACES;
    }

    private static boolean isSet(int set) {
        return set >= 0 && set <= ALL_TERMS;
    }

    private static boolean isSlop(int slop) {
        return slop >= 0 && slop <= MOST_SLOP;
    }

    private static boolean isKind(int kind) {
        return kind >= TERM && kind <= GROWN;
    }

    private static boolean isNumberOf(int kind, int n) {
        return n >= 0 && (kind == TERM ? n < TERMS : n <= MOST_NUMBER);
    }

    private static boolean countsFirst(int kind) {
        return kind != TERM;
    }

    private static boolean countsSecond(int kind) {
        return kind >= EITHER && kind <= FAR;
    }

    private static boolean countsNumber(int kind) {
        return kind != EITHER && kind != HOLDING && kind != IN && kind != OVER;
    }

    /**
     * A row of INTERVALS, none of which HOLDS another one once keepLeast was called. Of those with
     * one begin only that with the least end can stay, so one end for each begin is all it needs.
     */
    private static final class Row {
        private final int[] ends;

        Row() {
            ends = new int[PLACES];
            Arrays.fill(ends, NO_END);
        }

        void empty() {
            Arrays.fill(ends, NO_END);
        }

        void add(int from, int to) {
            if (isPlace(from) && to < ends[from]) {
                ends[from] = to;
            }
        }

        /** Walks down, so that every INTERVAL that begins behind has been seen with its end. */
        void keepLeast() {
            int leastEnd = NO_END;
            for (int from = PLACES - 1; from >= 0; from--) {
                if (ends[from] < leastEnd) {
                    leastEnd = ends[from];
                } else {
                    ends[from] = NO_END;
                }
            }
        }

        boolean beginsAt(int place) {
            return isPlace(place) && ends[place] != NO_END;
        }

        int size() {
            int found = 0;
            for (int from = 0; from < PLACES; from++) {
                if (beginsAt(from)) {
                    found++;
                }
            }
            return found;
        }

        int beginOf(int k) {
            int before = 0;
            for (int from = 0; from < PLACES; from++) {
                if (beginsAt(from)) {
                    if (before == k) {
                        return from;
                    }
                    before++;
                }
            }
            return NO_SUCH;
        }

        int endOf(int k) {
            int from = beginOf(k);
            return isPlace(from) ? ends[from] : NO_SUCH;
        }

        /** The ends rise with the begins, so the last end seen is the greatest one. */
        int placesCovered() {
            int covered = 0;
            int lastEnd = -1;
            for (int from = 0; from < PLACES; from++) {
                if (beginsAt(from)) {
                    covered += ends[from] - Math.max(lastEnd, from - 1);
                    lastEnd = ends[from];
                }
            }
            return covered;
        }

        void addPlacesWith(int set, int[] text) {
            for (int place = 0; place < PLACES; place++) {
                if ((text[place] & set) != 0) {
                    add(place, place);
                }
            }
        }

        void addAll(Row a) {
            addGrown(a, 0);
        }

        void addGrown(Row a, int n) {
            for (int from = 0; from < PLACES; from++) {
                if (a.beginsAt(from)) {
                    add(Math.max(0, from - n), a.ends[from]);
                }
            }
        }

        void addEndingBefore(Row a, int place) {
            for (int from = 0; from < PLACES; from++) {
                if (a.beginsAt(from) && a.ends[from] < place) {
                    add(from, a.ends[from]);
                }
            }
        }

        void addBehind(Row a, Row b, int n) {
            for (int from = 0; from < PLACES; from++) {
                if (a.beginsAt(from)) {
                    addBehindOne(from, a.ends[from], b, n);
                }
            }
        }

        private void addBehindOne(int from, int to, Row b, int n) {
            for (int next = to + 1; next < PLACES && next - to - 1 <= n; next++) {
                if (b.beginsAt(next)) {
                    add(from, b.ends[next]);
                }
            }
        }

        void addBoth(Row a, Row b, int n) {
            for (int from = 0; from < PLACES; from++) {
                if (a.beginsAt(from)) {
                    addBothOfOne(from, a.ends[from], b, n);
                }
            }
        }

        private void addBothOfOne(int from, int to, Row b, int n) {
            for (int other = 0; other < PLACES; other++) {
                if (b.beginsAt(other)) {
                    int low = Math.min(from, other);
                    int high = Math.max(to, b.ends[other]);
                    if (high - low + 1 <= n) {
                        add(low, high);
                    }
                }
            }
        }

        void addHolding(Row a, Row b) {
            for (int from = 0; from < PLACES; from++) {
                if (a.beginsAt(from) && b.hasWithin(from, a.ends[from])) {
                    add(from, a.ends[from]);
                }
            }
        }

        void addIn(Row a, Row b) {
            for (int from = 0; from < PLACES; from++) {
                if (a.beginsAt(from) && b.hasAround(from, a.ends[from])) {
                    add(from, a.ends[from]);
                }
            }
        }

        /** Those of a for which it is so, or not, that b has one with n PLACES between at most. */
        void addByNearness(Row a, Row b, int n, boolean wanted) {
            for (int from = 0; from < PLACES; from++) {
                if (a.beginsAt(from) && b.hasNear(from, a.ends[from], n) == wanted) {
                    add(from, a.ends[from]);
                }
            }
        }

        private boolean hasWithin(int low, int high) {
            for (int from = Math.max(0, low); from < PLACES; from++) {
                if (beginsAt(from) && ends[from] <= high) {
                    return true;
                }
            }
            return false;
        }

        private boolean hasAround(int low, int high) {
            for (int from = 0; from < PLACES && from <= low; from++) {
                if (beginsAt(from) && ends[from] >= high) {
                    return true;
                }
            }
            return false;
        }

        /** With n = -1: has one with a PLACE in common. */
        private boolean hasNear(int low, int high, int n) {
            for (int from = 0; from < PLACES; from++) {
                if (beginsAt(from) && from - high - 1 <= n && low - ends[from] - 1 <= n) {
                    return true;
                }
            }
            return false;
        }
    }

    /** The ASKS and their rows, which are worked out when they are first wanted for a TEXT. */
    private static final class AskList {
        private final int[] kinds;
        private final int[] firsts;
        private final int[] seconds;
        private final int[] numbers;
        private final Row[] rows;
        private int size;
        /** How many ASKS, from 0, have the row that is due in the TEXT as it is. */
        private int ready;

        AskList() {
            kinds = new int[MOST_ASKS];
            firsts = new int[MOST_ASKS];
            seconds = new int[MOST_ASKS];
            numbers = new int[MOST_ASKS];
            rows = new Row[MOST_ASKS];
            for (int i = 0; i < MOST_ASKS; i++) {
                rows[i] = new Row();
            }
            size = 0;
            ready = 0;
        }

        boolean has(int ask) {
            return ask >= 0 && ask < size;
        }

        /** What does not count is handed in as 0, which is a number that every row can look up. */
        int append(int kind, int a, int b, int n) {
            if (size >= MOST_ASKS) {
                return NO_ROOM;
            }
            kinds[size] = kind;
            firsts[size] = a;
            seconds[size] = b;
            numbers[size] = n;
            size++;
            return size - 1;
        }

        int dropAll() {
            int before = size;
            size = 0;
            ready = 0;
            return before;
        }

        void outdate() {
            ready = 0;
        }

        /** An ASK is joined out of ASKS before it alone, so rising numbers find theirs ready. */
        Row rowOf(int ask, int[] text) {
            for (int next = ready; next <= ask && next < size; next++) {
                workOut(next, text);
                ready = next + 1;
            }
            return rows[ask];
        }

        private void workOut(int ask, int[] text) {
            Row row = rows[ask];
            Row a = rows[firsts[ask]];
            Row b = rows[seconds[ask]];
            int n = numbers[ask];
            row.empty();
            switch (kinds[ask]) {
                case TERM:
                    row.addPlacesWith(1 << n, text);
                    break;
                case EITHER:
                    row.addAll(a);
                    row.addAll(b);
                    break;
                case BEHIND:
                    row.addBehind(a, b, n);
                    break;
                case NEAR:
                    row.addBehind(a, b, n);
                    row.addBehind(b, a, n);
                    break;
                case BOTH:
                    row.addBoth(a, b, n);
                    break;
                case HOLDING:
                    row.addHolding(a, b);
                    break;
                case IN:
                    row.addIn(a, b);
                    break;
                case OVER:
                    row.addByNearness(a, b, -1, true);
                    break;
                case FAR:
                    row.addByNearness(a, b, n, false);
                    break;
                case FIRST:
                    row.addEndingBefore(a, n);
                    break;
                case GROWN:
                    row.addGrown(a, n);
                    break;
                default:
                    break;
            }
            row.keepLeast();
        }
    }

    /** THE PHRASE and what a search through its CHOICES found in the TEXT as it is. */
    private static final class Phrase {
        private final int[] offsets;
        private final int[] sets;
        private int size;
        private boolean settled;
        /** For each SLOT the PLACES that have a TERM of its SET, by rising PLACES. */
        private final int[][] places;
        /** How many these are. */
        private final int[] placesOf;
        /** The PLACES of the CHOICE that a search is making. */
        private final int[] tried;
        private final int[] firstChoice;
        /** How many CHOICES are MOVED by so much: whole up to the slop and up to the least one. */
        private final int[] counts;
        private int lowestMoved;
        private int shortFrom;
        private int shortTo;

        Phrase() {
            offsets = new int[MOST_SLOTS];
            sets = new int[MOST_SLOTS];
            size = 0;
            settled = false;
            places = new int[MOST_SLOTS][PLACES];
            placesOf = new int[MOST_SLOTS];
            tried = new int[MOST_SLOTS];
            firstChoice = new int[MOST_SLOTS];
            counts = new int[MOST_MOVED + 1];
            lowestMoved = NO_CHOICE;
            shortFrom = 0;
            shortTo = PLACES;
        }

        boolean has(int slot) {
            return slot >= 0 && slot < size;
        }

        int append(int offset, int set) {
            if (size >= MOST_SLOTS) {
                return NO_ROOM;
            }
            offsets[size] = offset;
            sets[size] = set;
            size++;
            outdate();
            return size - 1;
        }

        int dropAll() {
            int before = size;
            size = 0;
            outdate();
            return before;
        }

        void outdate() {
            settled = false;
        }

        boolean hasChoice() {
            return lowestMoved != NO_CHOICE;
        }

        int leastMoved() {
            return lowestMoved;
        }

        int placeInFirst(int slot) {
            return has(slot) ? firstChoice[slot] : NO_SUCH;
        }

        int shortestBegin() {
            return shortFrom;
        }

        int shortestEnd() {
            return shortTo;
        }

        int choicesMovedBy(int moved) {
            return moved >= 0 && moved <= MOST_MOVED ? counts[moved] : 0;
        }

        int choicesUpTo(int slop) {
            int sum = 0;
            for (int moved = 0; moved <= slop && moved <= MOST_SLOP; moved++) {
                sum += counts[moved];
            }
            return sum;
        }

        long weightUpTo(int slop) {
            long sum = 0;
            for (int moved = 0; moved <= slop && moved <= MOST_SLOP; moved++) {
                sum += counts[moved] * (FULL_WEIGHT / (moved + 1));
            }
            return sum;
        }

        void settle(int[] text) {
            if (settled) {
                return;
            }
            Arrays.fill(counts, 0);
            lowestMoved = NO_CHOICE;
            // Longer than every INTERVAL of the TEXT, so that the first one found replaces it.
            shortFrom = 0;
            shortTo = PLACES;
            if (size > 0) {
                findPlaces(text);
                searchMoved(0, 0, -MOST_OFFSET, PLACES - 1);
                searchShortest(0, PLACES, -1);
            }
            settled = true;
        }

        private void findPlaces(int[] text) {
            for (int slot = 0; slot < size; slot++) {
                int found = 0;
                for (int place = 0; place < PLACES; place++) {
                    if ((text[place] & sets[slot]) != 0) {
                        places[slot][found] = place;
                        found++;
                    }
                }
                placesOf[slot] = found;
            }
        }

        /**
         * Tries the PLACES of this SLOT and of those behind it. What the SLOTS before it have, PLACE
         * less OFFSET, is MOVED least by every m of the middle, low .. high, and one more SLOT adds
         * how far it is from the middle. So it never makes a CHOICE less MOVED, and what is beyond
         * all that is ever asked for is left at once.
         */
        private void searchMoved(int slot, int moved, int low, int high) {
            if (slot >= size) {
                noteChoice(moved);
                return;
            }
            for (int i = 0; i < placesOf[slot]; i++) {
                int place = places[slot][i];
                int value = place - offsets[slot];
                int nearest = Math.max(low, Math.min(high, value));
                int movedNow = moved + Math.abs(value - nearest);
                if (movedNow <= Math.max(MOST_SLOP, lowestMoved) && isFree(slot, place)) {
                    tried[slot] = place;
                    if (slot == 1) {
                        // The middle of two is all that lies between them.
                        searchMoved(slot + 1, movedNow, Math.min(low, value), Math.max(high, value));
                    } else {
                        // The middle of one or three is one of them; that of four is not used.
                        searchMoved(slot + 1, movedNow, nearest, nearest);
                    }
                }
            }
        }

        /** The search goes by rising PLACES, so the first that is MOVED so little is the FIRST. */
        private void noteChoice(int moved) {
            if (moved < 0 || moved > MOST_MOVED) {
                return;
            }
            counts[moved]++;
            if (moved < lowestMoved) {
                lowestMoved = moved;
                System.arraycopy(tried, 0, firstChoice, 0, MOST_SLOTS);
            }
        }

        /** One more SLOT never makes the INTERVAL shorter, nor an equally long one begin earlier. */
        private void searchShortest(int slot, int low, int high) {
            if (slot >= size) {
                shortFrom = low;
                shortTo = high;
                return;
            }
            for (int i = 0; i < placesOf[slot]; i++) {
                int place = places[slot][i];
                int lowNow = Math.min(low, place);
                int highNow = Math.max(high, place);
                if (isShorter(lowNow, highNow) && isFree(slot, place)) {
                    tried[slot] = place;
                    searchShortest(slot + 1, lowNow, highNow);
                }
            }
        }

        private boolean isShorter(int low, int high) {
            int width = high - low;
            int widthSoFar = shortTo - shortFrom;
            return width < widthSoFar || (width == widthSoFar && low < shortFrom);
        }

        private boolean isFree(int slot, int place) {
            for (int other = 0; other < slot; other++) {
                if (tried[other] == place && (sets[other] & sets[slot]) != 0) {
                    return false;
                }
            }
            return true;
        }
    }
}

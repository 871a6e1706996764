import java.util.Arrays;

/**
 * A yard of readers over a text: small readers and readers put together of others, with marks and
 * a pile of numbers that a failing way takes back.
 */
public final class ReaderYard {
    public static final int NONE = -1, BAD = -2, FULL = -3;

    private static final int SIGN = 0, RANGE = 1, ANY = 2, END = 3, THEN = 4, OR = 5, MANY = 6, MAYBE = 7;
    private static final int NOT = 8, AHEAD = 9, NAME = 10, MARK = 11, BAR = 12, LAY = 13, FIGURE = 14, ACT = 15;

    private static final int ADD = 0, SUBTRACT = 1, MULTIPLY = 2, DIVIDE = 3;

    private static final int EMPTY = 1, ZERO = 2, LACK = 3, DEEP = 4, SPENT = 5;
    private static final int FAULT_BASE = -10;

    private static final int MOST_SIGNS = 200, MOST_READERS = 50, MOST_NAMES = 10;
    private static final int MOST_DEEP = 150, MOST_STEPS = 3000;
    private static final int HIGHEST_SIGN = 127, SIGNS_PER_CALL = 8, BITS_PER_SIGN = 8;
    private static final int FIGURE_0 = 48, FIGURE_9 = 57;

    /** Stands where the depth of an OR is asked for and there is none; a first reader is at depth 1. */
    private static final int NO_OR = 0;

    private final byte[] signs = new byte[MOST_SIGNS];
    private int signCount;

    private final int[] sorts = new int[MOST_READERS];
    private final int[] firsts = new int[MOST_READERS];
    private final int[] seconds = new int[MOST_READERS];
    private final int[] begun = new int[MOST_READERS];
    private int readerCount;

    private final int[] names = new int[MOST_NAMES];

    /** Whether the OR under way at a depth is barred. */
    private final boolean[] barred = new boolean[MOST_DEEP + 1];

    private final Pile numbers = new Pile();
    private final Marks marks = new Marks();

    private int steps;
    private int deepest;
    private int stepsEver;
    private int faultedCalls;
    private int latestFault;

    public ReaderYard() {
        Arrays.fill(names, NONE);
        addReader(ANY, 0, 0);
        addReader(END, 0, 0);
    }

    public int text(int n, long w) {
        if (n < 1 || n > SIGNS_PER_CALL) {
            return BAD;
        }
        if (signCount + n > MOST_SIGNS) {
            return FULL;
        }
        for (int i = 0; i < n; i++) {
            signs[signCount + i] = (byte) ((w >>> (BITS_PER_SIGN * i)) & HIGHEST_SIGN);
        }
        signCount += n;
        return signCount;
    }

    public int clear() {
        int had = signCount;
        signCount = 0;
        return had;
    }

    public int reader(int sort, int a, int b) {
        if (sort < SIGN || sort > ACT || !fitsFirst(sort, a) || !fitsSecond(sort, b)) {
            return BAD;
        }
        if (readerCount >= MOST_READERS) {
            return FULL;
        }
        return addReader(sort, a, b);
    }

    public int name(int k, int reader) {
        if (!isName(k) || (reader != NONE && !isReader(reader))) {
            return BAD;
        }
        int was = names[k];
        names[k] = reader;
        return was == NONE ? 0 : 1;
    }

    public int read(int reader, int place) {
        if (!isReader(reader) || place < 0 || place > signCount) {
            return BAD;
        }
        startCall();
        int to = follow(reader, place, 1, NO_OR);
        if (isFault(to)) {
            noteFault(to);
        }
        return to;
    }

    public int all(int reader) {
        if (!isReader(reader)) {
            return BAD;
        }
        startCall();
        int place = 0;
        int further = 0;
        // Each round but the last comes further, so the text's length bounds them.
        for (int round = 0; round <= MOST_SIGNS; round++) {
            int topThen = numbers.top;
            int marksThen = marks.size;
            int to = follow(reader, place, 1, NO_OR);
            if (isFault(to)) {
                noteFault(to);
                return to;
            }
            if (to <= place) {
                takeBack(topThen, marksThen);
                break;
            }
            place = to;
            further++;
        }
        return further;
    }

    public long pile(int i) {
        return numbers.numberUnder(i);
    }

    public int mark(int i, int what) {
        if (what < 0 || what > 2) {
            return BAD;
        }
        if (i < 0 || i >= marks.size) {
            return NONE;
        }
        return what == 0 ? marks.labels[i] : what == 1 ? marks.froms[i] : marks.tos[i];
    }

    public int count(int what) {
        switch (what) {
            case 0: return signCount;
            case 1: return readerCount;
            case 2: return numbers.height();
            case 3: return marks.size;
            case 4: return steps;
            case 5: return deepest;
            case 6: return stepsEver;
            case 7: return faultedCalls;
            case 8: return latestFault;
            default: return BAD;
        }
    }

    public int began(int reader) {
        return isReader(reader) ? begun[reader] : BAD;
    }

    private boolean isReader(int number) {
        return number >= 0 && number < readerCount;
    }

    private static boolean isName(int number) {
        return number >= 0 && number < MOST_NAMES;
    }

    private boolean fitsFirst(int sort, int a) {
        switch (sort) {
            case THEN:
            case OR:
            case MANY:
            case MAYBE:
            case NOT:
            case AHEAD:
            case MARK:
                return isReader(a);
            case NAME:
                return isName(a);
            case ACT:
                return a >= ADD && a <= DIVIDE;
            default:
                return true;
        }
    }

    private boolean fitsSecond(int sort, int b) {
        return (sort != THEN && sort != OR) || isReader(b);
    }

    /** The caller has seen that there is room for one more. */
    private int addReader(int sort, int a, int b) {
        int number = readerCount;
        sorts[number] = sort;
        firsts[number] = a;
        seconds[number] = b;
        readerCount++;
        return number;
    }

    private void startCall() {
        numbers.makeEmpty();
        marks.size = 0;
        steps = 0;
        deepest = 0;
    }

    private static int faultAnswer(int fault) {
        return FAULT_BASE - fault;
    }

    private static boolean isFault(int answer) {
        return answer < FAULT_BASE;
    }

    private void noteFault(int answer) {
        faultedCalls++;
        latestFault = FAULT_BASE - answer;
    }

    private void takeBack(int topThen, int marksThen) {
        numbers.top = topThen;
        marks.size = marksThen;
    }

    /**
     * Where the reader comes to from the place, NONE if it fails, or a fault's answer. deep is how
     * many readers are under way with this one, orDeep the depth of the nearest OR whose first
     * reader reads this. All sorts that read others stand in this one method, because a second
     * method for each of 150 readers under way would open more calls than LANGUAGE.md allows.
     */
    private int follow(int reader, int place, int deep, int orDeep) {
        int refusal = begin(reader, deep);
        if (refusal != 0) {
            return refusal;
        }
        int topThen = numbers.top;
        int marksThen = marks.size;
        int a = firsts[reader];
        int to;
        switch (sorts[reader]) {
            case THEN:
                to = follow(a, place, deep + 1, orDeep);
                if (to >= 0) {
                    to = follow(seconds[reader], to, deep + 1, orDeep);
                }
                break;
            case OR:
                barred[deep] = false;
                to = follow(a, place, deep + 1, deep);
                if (to == NONE && !barred[deep]) {
                    to = follow(seconds[reader], place, deep + 1, orDeep);
                }
                break;
            case MANY:
                to = place;
                // The text's length bounds the rounds, as in all(); only the last is taken back.
                for (int round = 0; round <= MOST_SIGNS; round++) {
                    topThen = numbers.top;
                    marksThen = marks.size;
                    int next = follow(a, to, deep + 1, orDeep);
                    if (isFault(next)) {
                        return next;
                    }
                    if (next <= to) {
                        takeBack(topThen, marksThen);
                        break;
                    }
                    to = next;
                }
                break;
            case NAME:
                to = names[a] == NONE ? faultAnswer(EMPTY) : follow(names[a], place, deep + 1, orDeep);
                break;
            case MAYBE:
            case NOT:
            case AHEAD:
            case MARK:
                to = follow(a, place, deep + 1, orDeep);
                to = turn(reader, place, to, topThen, marksThen);
                break;
            default:
                to = readAlone(reader, place, orDeep);
                break;
        }
        if (to == NONE) {
            takeBack(topThen, marksThen);
        }
        return to;
    }

    /** 0 if the reader has begun, else the answer of the fault that keeps it from it. */
    private int begin(int reader, int deep) {
        if (deep > MOST_DEEP) {
            return faultAnswer(DEEP);
        }
        if (steps >= MOST_STEPS) {
            return faultAnswer(SPENT);
        }
        steps++;
        stepsEver++;
        begun[reader]++;
        deepest = Math.max(deepest, deep);
        return 0;
    }

    /** What a MAYBE, NOT, AHEAD or MARK makes of where its one reader came to (NONE: it failed). */
    private int turn(int reader, int place, int to, int topThen, int marksThen) {
        if (isFault(to)) {
            return to;
        }
        switch (sorts[reader]) {
            case MAYBE:
                return to == NONE ? place : to;
            case NOT:
                return to == NONE ? place : NONE;
            case AHEAD:
                takeBack(topThen, marksThen);
                return to == NONE ? NONE : place;
            default:
                if (to != NONE) {
                    marks.add(seconds[reader], place, to);
                }
                return to;
        }
    }

    private int readAlone(int reader, int place, int orDeep) {
        int a = firsts[reader];
        switch (sorts[reader]) {
            case SIGN:
                return passSign(place, a, a);
            case RANGE:
                return passSign(place, a, seconds[reader]);
            case ANY:
                return passSign(place, 0, HIGHEST_SIGN);
            case END:
                return place == signCount ? place : NONE;
            case BAR:
                // Without an OR this sets the place of NO_OR, which no OR looks at.
                barred[orDeep] = true;
                return place;
            case LAY:
                numbers.lay(a, 0);
                return place;
            case FIGURE:
                return readFigure(place);
            default:
                return act(a, place);
        }
    }

    private int passSign(int place, int lowest, int highest) {
        if (place < 0 || place >= signCount) {
            return NONE;
        }
        int sign = signs[place];
        return sign >= lowest && sign <= highest ? place + 1 : NONE;
    }

    private int readFigure(int place) {
        int to = passSign(place, FIGURE_0, FIGURE_9);
        if (to == NONE) {
            return NONE;
        }
        if (numbers.height() < 1) {
            return faultAnswer(LACK);
        }
        numbers.lay(10 * numbers.numberUnder(0) + signs[place] - FIGURE_0, 1);
        return to;
    }

    private int act(int deed, int place) {
        if (numbers.height() < 2) {
            return faultAnswer(LACK);
        }
        long x = numbers.numberUnder(0);
        long y = numbers.numberUnder(1);
        if (deed == DIVIDE && x == 0) {
            return faultAnswer(ZERO);
        }
        numbers.lay(reckon(deed, y, x), 2);
        return place;
    }

    private static long reckon(int deed, long y, long x) {
        switch (deed) {
            case ADD: return y + x;
            case SUBTRACT: return y - x;
            case MULTIPLY: return y * x;
            default: return x == 0 ? 0 : y / x;
        }
    }

    /**
     * Numbers laid one on the other. What is taken or replaced stays in its slot till the call
     * ends, so taking back is only setting the top to the slot that it was. A step lays one number
     * at most, so a slot for each step is enough. Slot 0 is the ground below the lowest number.
     */
    private static final class Pile {
        final long[] values = new long[MOST_STEPS + 1];
        final int[] belows = new int[MOST_STEPS + 1];
        final int[] heights = new int[MOST_STEPS + 1];
        int used;
        int top;

        void makeEmpty() {
            used = 0;
            top = 0;
        }

        int height() {
            return heights[top];
        }

        /** The number with i numbers on it; 0 if there is none. */
        long numberUnder(int i) {
            return i < 0 || i >= height() ? 0 : values[slotUnder(i)];
        }

        /** Takes so many numbers from the top (there are so many) and lays one. */
        void lay(long value, int taken) {
            if (used >= MOST_STEPS) {
                return;
            }
            int below = slotUnder(taken);
            used++;
            values[used] = value;
            belows[used] = below;
            heights[used] = heights[below] + 1;
            top = used;
        }

        private int slotUnder(int i) {
            int slot = top;
            for (int k = 0; k < i; k++) {
                slot = belows[slot];
            }
            return slot;
        }
    }

    /** Marks, one behind the other; a step makes one at most. */
    private static final class Marks {
        final int[] labels = new int[MOST_STEPS];
        final int[] froms = new int[MOST_STEPS];
        final int[] tos = new int[MOST_STEPS];
        int size;

        void add(int label, int from, int to) {
            if (size >= MOST_STEPS) {
                return;
            }
            labels[size] = label;
            froms[size] = from;
            tos[size] = to;
            size++;
        }
    }
}

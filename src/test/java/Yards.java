/** Makes yards with a text, and names the sorts for the tests. */
final class Yards {
    static final int SIGN = 0, RANGE = 1, ANY = 2, END = 3, THEN = 4, OR = 5, MANY = 6, MAYBE = 7;
    static final int NOT = 8, AHEAD = 9, NAME = 10, MARK = 11, BAR = 12, LAY = 13, FIGURE = 14, ACT = 15;

    static final int NONE = ReaderYard.NONE, BAD = ReaderYard.BAD, FULL = ReaderYard.FULL;

    private Yards() {
    }

    static ReaderYard of(String text) {
        ReaderYard yard = new ReaderYard();
        put(yard, text);
        return yard;
    }

    static void put(ReaderYard yard, String text) {
        for (int i = 0; i < text.length(); i++) {
            yard.text(1, text.charAt(i));
        }
    }

    /** A reader that reads the given ones one behind the other. */
    static int chain(ReaderYard yard, int... readers) {
        int whole = readers[readers.length - 1];
        for (int i = readers.length - 2; i >= 0; i--) {
            whole = yard.reader(THEN, readers[i], whole);
        }
        return whole;
    }

    /** A reader that always fails. */
    static int failing(ReaderYard yard) {
        return yard.reader(SIGN, -1, 0);
    }

    /** A yard whose text has so many signs, all of them 'a'. */
    static ReaderYard ofLength(int signs) {
        ReaderYard yard = new ReaderYard();
        lengthen(yard, signs);
        return yard;
    }

    /** So many signs 'a' more, in as few calls as can be. */
    static void lengthen(ReaderYard yard, int signs) {
        for (int left = signs; left > 0; left -= 8) {
            yard.text(Math.min(left, 8), 0x6161_6161_6161_6161L);
        }
    }

    /** A reader that reads the given one through so many MAYBEs, one in the other. */
    static int wrapped(ReaderYard yard, int reader, int times) {
        int whole = reader;
        for (int i = 0; i < times; i++) {
            whole = yard.reader(MAYBE, whole, 0);
        }
        return whole;
    }

    /**
     * A reader that makes so many steps from any place and stays there. It doubles what it reads,
     * since 50 readers must do for thousands of steps. The last step lays a number.
     */
    static int spender(ReaderYard yard, int steps) {
        int[] doubled = new int[12];
        int[] cost = new int[12];
        doubled[0] = yard.reader(LAY, 1, 0);
        cost[0] = 1;
        for (int i = 1; i < 12 && 2 * cost[i - 1] + 1 < steps; i++) {
            doubled[i] = yard.reader(THEN, doubled[i - 1], doubled[i - 1]);
            cost[i] = 2 * cost[i - 1] + 1;
        }
        int whole = doubled[0];
        int made = 1;
        for (int i = 11; i >= 0; i--) {
            while (cost[i] > 0 && made + cost[i] + 1 <= steps) {
                whole = yard.reader(THEN, doubled[i], whole);
                made += cost[i] + 1;
            }
        }
        return wrapped(yard, whole, steps - made);
    }

    /** All that can be asked without a change: counts, the pile, the marks, how often each began. */
    static String state(ReaderYard yard) {
        StringBuilder state = new StringBuilder("counts");
        for (int what = 0; what <= 8; what++) {
            state.append(' ').append(yard.count(what));
        }
        state.append(", pile");
        for (int i = 0, numbers = yard.count(2); i < numbers; i++) {
            state.append(' ').append(yard.pile(i));
        }
        state.append(", marks");
        for (int i = 0, marks = yard.count(3); i < marks; i++) {
            state.append(' ').append(yard.mark(i, 0)).append(':');
            state.append(yard.mark(i, 1)).append('-').append(yard.mark(i, 2));
        }
        state.append(", began");
        for (int reader = 0, readers = yard.count(1); reader < readers; reader++) {
            state.append(' ').append(yard.began(reader));
        }
        return state.toString();
    }
}

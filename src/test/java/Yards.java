/** Makes yards with a text, and names the sorts for the tests. */
final class Yards {
    static final int SIGN = 0, RANGE = 1, ANY = 2, END = 3, THEN = 4, OR = 5, MANY = 6, MAYBE = 7;
    static final int NOT = 8, AHEAD = 9, NAME = 10, MARK = 11, BAR = 12, LAY = 13, FIGURE = 14, ACT = 15;

    static final int NONE = ReaderYard.NONE, BAD = ReaderYard.BAD, FULL = ReaderYard.FULL;

    private Yards() {
    }

    static ReaderYard of(String text) {
        ReaderYard yard = new ReaderYard();
        put(yard, text);
        return yard;
    }

    static void put(ReaderYard yard, String text) {
        for (int i = 0; i < text.length(); i++) {
            yard.text(1, text.charAt(i));
        }
    }

    /** A reader that reads the given ones one behind the other. */
    static int chain(ReaderYard yard, int... readers) {
        int whole = readers[readers.length - 1];
        for (int i = readers.length - 2; i >= 0; i--) {
            whole = yard.reader(THEN, readers[i], whole);
        }
        return whole;
    }

    /** A reader that always fails. */
    static int failing(ReaderYard yard) {
        return yard.reader(SIGN, -1, 0);
    }
}

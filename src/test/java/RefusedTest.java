import java.util.function.ToIntFunction;

/**
 * Each number just outside what a call takes is BAD, what finds no room is FULL, and behind such a
 * call nothing has changed: not the text, the readers, the names, the pile, the marks, a count.
 */
public final class RefusedTest {
    private static final int LOWEST = Integer.MIN_VALUE, HIGHEST = Integer.MAX_VALUE;

    /** Of a stocked yard: its readers are 0 .. LATEST, its text is "a1c", only NAME 0 is a reader. */
    private static final int WHOLE = 7, NAMED = 8, LATEST = 11, END_OF_TEXT = 3;

    public static void main(String[] args) {
        text();
        readerSort();
        readerMadeOfOthers();
        readerNameAndAct();
        name();
        read();
        all();
        asking();
        fullText();
        fullYard();
        badAheadOfFull();
        Due.end();
    }

    /** A yard with something in each part of it that a refused call could change. */
    private static ReaderYard stocked() {
        ReaderYard y = Yards.of("a1c");
        int a = y.reader(Yards.SIGN, 'a', 0);
        int one = y.reader(Yards.SIGN, '1', 0);
        int c = y.reader(Yards.SIGN, 'c', 0);
        Yards.chain(y, a, one, c);
        y.reader(Yards.MARK, 6, 9);
        y.reader(Yards.NAME, 0, 0);
        y.name(0, WHOLE);
        int laid = y.reader(Yards.LAY, 5, 0);
        int faulty = y.reader(Yards.ACT, 0, 0);
        y.read(faulty, 0);
        y.read(y.reader(Yards.THEN, laid, NAMED), 0);
        return y;
    }

    private static void refused(String call, int want, ToIntFunction<ReaderYard> made) {
        ReaderYard y = stocked();
        String before = Yards.state(y);
        Due.is(call, made.applyAsInt(y), want);
        Due.same("behind " + call + " the state", Yards.state(y), before);
        Due.is("behind " + call + " the text", y.read(WHOLE, 0), END_OF_TEXT);
        Due.is("behind " + call + " NAME 0", y.read(NAMED, 0), END_OF_TEXT);
        Due.is("behind " + call + " the next reader", y.reader(Yards.ANY, 0, 0), LATEST + 1);
        for (int k = 0; k <= 9; k++) {
            Due.is("behind " + call + " NAME " + k, y.name(k, Yards.NONE), k == 0 ? 1 : 0);
        }
    }

    private static void bad(String call, ToIntFunction<ReaderYard> made) {
        refused(call, Yards.BAD, made);
    }

    private static void text() {
        int[] wrong = {0, 9, -1, 16, LOWEST, HIGHEST};
        for (int n : wrong) {
            bad("text " + n, y -> y.text(n, -1L));
        }
    }

    private static void readerSort() {
        int[] wrong = {-1, 16, 17, LOWEST, HIGHEST};
        for (int sort : wrong) {
            bad("sort " + sort, y -> y.reader(sort, 0, 0));
        }
    }

    private static void readerMadeOfOthers() {
        int[] sorts = {4, 5, 6, 7, 8, 9, 11};
        int[] wrong = {-1, LATEST + 1, 49, 50, LOWEST, HIGHEST};
        for (int number : wrong) {
            for (int sort : sorts) {
                bad("sort " + sort + " of a " + number, y -> y.reader(sort, number, 0));
            }
            bad("THEN of b " + number, y -> y.reader(Yards.THEN, 0, number));
            bad("OR of b " + number, y -> y.reader(Yards.OR, 0, number));
            bad("THEN of both " + number, y -> y.reader(Yards.THEN, number, number));
            bad("OR of both " + number, y -> y.reader(Yards.OR, number, number));
        }
    }

    private static void readerNameAndAct() {
        int[] noName = {-1, 10, LOWEST, HIGHEST};
        for (int a : noName) {
            bad("NAME of a " + a, y -> y.reader(Yards.NAME, a, 0));
        }
        int[] noDeed = {-1, 4, LOWEST, HIGHEST};
        for (int a : noDeed) {
            bad("ACT of a " + a, y -> y.reader(Yards.ACT, a, 0));
        }
    }

    private static void name() {
        int[] noName = {-1, 10, LOWEST, HIGHEST};
        for (int k : noName) {
            bad("name " + k, y -> y.name(k, 1));
            bad("name " + k + " none", y -> y.name(k, Yards.NONE));
        }
        int[] noReader = {-2, -3, LATEST + 1, 49, 50, LOWEST, HIGHEST};
        for (int reader : noReader) {
            bad("name 0, reader " + reader, y -> y.name(0, reader));
            bad("name 9, reader " + reader, y -> y.name(9, reader));
            bad("name 10, reader " + reader, y -> y.name(10, reader));
        }
    }

    private static void read() {
        int[] noReader = {-1, LATEST + 1, 49, 50, LOWEST, HIGHEST};
        int[] noPlace = {-1, END_OF_TEXT + 1, 200, 201, LOWEST, HIGHEST};
        for (int reader : noReader) {
            bad("read of " + reader, y -> y.read(reader, 0));
        }
        for (int place : noPlace) {
            bad("read of ANY from " + place, y -> y.read(0, place));
            bad("read of END from " + place, y -> y.read(1, place));
            bad("read of the latest from " + place, y -> y.read(LATEST, place));
            bad("read of none from " + place, y -> y.read(LATEST + 1, place));
        }
    }

    private static void all() {
        int[] noReader = {-1, LATEST + 1, 49, 50, LOWEST, HIGHEST};
        for (int reader : noReader) {
            bad("all of " + reader, y -> y.all(reader));
        }
    }

    private static void asking() {
        int[] noMarkPart = {-1, 3, LOWEST, HIGHEST};
        int[] noMark = {-1, 1, 3000, LOWEST, HIGHEST};
        int[] noCount = {-1, 9, LOWEST, HIGHEST};
        int[] noReader = {-1, LATEST + 1, 49, 50, LOWEST, HIGHEST};
        for (int what : noMarkPart) {
            bad("mark 0, what " + what, y -> y.mark(0, what));
            bad("mark 1, what " + what, y -> y.mark(1, what));
            bad("mark -1, what " + what, y -> y.mark(-1, what));
        }
        for (int i : noMark) {
            refused("mark " + i, Yards.NONE, y -> y.mark(i, 0));
            refused("number " + i, 0, y -> (int) y.pile(i));
        }
        for (int what : noCount) {
            bad("count " + what, y -> y.count(what));
        }
        for (int reader : noReader) {
            bad("began of " + reader, y -> y.began(reader));
        }
    }

    private static void fullText() {
        for (int room = 0; room < 8; room++) {
            ReaderYard y = Yards.ofLength(200 - room);
            int other = y.reader(Yards.NOT, y.reader(Yards.SIGN, 'a', 0), 0);
            y.read(y.reader(Yards.MARK, 0, 4), 7);
            String before = Yards.state(y);
            for (int n = room + 1; n <= 8; n++) {
                Due.is(n + " SIGNS where there is room for " + room, y.text(n, 0), Yards.FULL);
            }
            Due.same("behind FULL, room " + room + ", the state", Yards.state(y), before);
            for (int place = 190; place < 200 - room; place++) {
                Due.is("behind FULL the sign at " + place, y.read(other, place), Yards.NONE);
            }
            if (room > 0) {
                Due.is("behind FULL what there is room for", y.text(room, 0x6161_6161_6161_6161L), 200);
            }
            Due.is("behind FULL no other sign", y.all(y.reader(Yards.SIGN, 'a', 0)), 200);
        }
    }

    private static ReaderYard fullOfReaders() {
        ReaderYard y = Yards.of("a");
        for (int number = 2; number < 49; number++) {
            y.reader(Yards.LAY, number, 0);
        }
        y.reader(Yards.MARK, 0, 6);
        y.read(49, 0);
        return y;
    }

    private static void fullYard() {
        for (int sort = 0; sort <= 15; sort++) {
            ReaderYard y = fullOfReaders();
            String before = Yards.state(y);
            Due.is("FULL: sort " + sort, y.reader(sort, 0, 0), Yards.FULL);
            Due.same("behind FULL, sort " + sort + ", the state", Yards.state(y), before);
            Due.is("behind FULL the latest reads", y.read(49, 0), 1);
            Due.is("behind FULL it marks as made", y.mark(0, 0), 6);
            Due.is("behind FULL no other is there", y.read(50, 0), Yards.BAD);
        }
    }

    private static void badAheadOfFull() {
        ReaderYard y = fullOfReaders();
        Due.is("FULL: THEN of the latest", y.reader(Yards.THEN, 49, 49), Yards.FULL);
        Due.is("BAD ahead of FULL: sort", y.reader(16, 0, 0), Yards.BAD);
        Due.is("BAD ahead of FULL: a", y.reader(Yards.MARK, 50, 0), Yards.BAD);
        Due.is("BAD ahead of FULL: b", y.reader(Yards.OR, 49, 50), Yards.BAD);
        Due.is("BAD ahead of FULL: NAME", y.reader(Yards.NAME, 10, 0), Yards.BAD);
        Due.is("BAD ahead of FULL: ACT", y.reader(Yards.ACT, 4, 0), Yards.BAD);
        Yards.lengthen(y, 199);
        Due.is("FULL: text 8", y.text(8, 0), Yards.FULL);
        Due.is("BAD ahead of FULL: text 9", y.text(9, 0), Yards.BAD);
        Due.is("BAD in a full text: text 0", y.text(0, 0), Yards.BAD);
        Due.is("BAD ahead of FULL: the highest", y.text(HIGHEST, 0), Yards.BAD);
    }
}

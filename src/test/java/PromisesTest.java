/** The promises 1 to 11, one method each: ordinary inputs, edges, wrong inputs. */
public final class PromisesTest {
    private static final int[] WRONG_NUMBERS = {-1, Integer.MIN_VALUE, Integer.MAX_VALUE, 50, 1000};

    public static void main(String[] args) {
        newObject();
        text();
        clear();
        reader();
        readerThatIsBad();
        name();
        read();
        all();
        pile();
        mark();
        count();
        badCallsChangeNothing();
        began();
        Due.end();
    }

    private static void newObject() {
        ReaderYard y = new ReaderYard();
        Due.is("1 signs", y.count(0), 0);
        Due.is("1 readers", y.count(1), 2);
        for (int what = 2; what <= 8; what++) {
            Due.is("1 count " + what, y.count(what), 0);
        }
        Due.is("1 pile", y.pile(0), 0);
        Due.is("1 mark", y.mark(0, 0), Yards.NONE);
        Due.is("1 any on nothing", y.read(0, 0), Yards.NONE);
        Due.is("1 end on nothing", y.read(1, 0), 0);
        for (int k = 0; k < 10; k++) {
            Due.is("1 name " + k, y.name(k, Yards.NONE), 0);
        }
        y.text(1, 5);
        Due.is("1 any", y.read(0, 0), 1);
        Due.is("1 end ahead of it", y.read(1, 0), Yards.NONE);
        Due.is("1 end", y.read(1, 1), 1);
    }

    private static void text() {
        ReaderYard y = new ReaderYard();
        int[] wrong = {0, -1, 9, Integer.MIN_VALUE, Integer.MAX_VALUE};
        for (int n : wrong) {
            Due.is("2 text " + n, y.text(n, 1), Yards.BAD);
        }
        Due.is("2 text 8", y.text(8, 0x80FF_7F00_4342_41C1L), 8);
        int[] signs = {65, 65, 66, 67, 0, 127, 127, 0};
        for (int i = 0; i < signs.length; i++) {
            Due.is("2 sign " + i, y.read(y.reader(Yards.SIGN, signs[i], 0), i), i + 1);
        }
        Due.is("2 more", y.text(1, -1L), 9);
        Due.is("2 only the lowest bytes", y.read(y.reader(Yards.SIGN, 127, 0), 8), 9);
        for (int i = 9; i < 193; i += 8) {
            Due.is("2 filling", y.text(8, 0), i + 8);
        }
        Due.is("2 no room for 8 behind 193", y.text(8, 0), Yards.FULL);
        Due.is("2 none came", y.count(0), 193);
        Due.is("2 room for 7", y.text(7, 0), 200);
        Due.is("2 full", y.text(1, 0), Yards.FULL);
        Due.is("2 bad ahead of full", y.text(9, 0), Yards.BAD);
        Due.is("2 all of it", y.all(0), 200);
    }

    private static void clear() {
        ReaderYard y = new ReaderYard();
        Due.is("3 nothing", y.clear(), 0);
        Yards.put(y, "abc");
        int marked = y.reader(Yards.MARK, 0, 9);
        y.read(marked, 1);
        Due.is("3 clear", y.clear(), 3);
        Due.is("3 signs", y.count(0), 0);
        Due.is("3 again", y.clear(), 0);
        Due.is("3 marks stay", y.mark(0, 2), 2);
        Due.is("3 readers stay", y.count(1), 3);
        Due.is("3 no old place", y.read(0, 1), Yards.BAD);
        Due.is("3 no old sign", y.read(0, 0), Yards.NONE);
        Yards.put(y, "z");
        Due.is("3 new sign", y.read(y.reader(Yards.SIGN, 'z', 0), 0), 1);
    }

    private static void reader() {
        ReaderYard y = new ReaderYard();
        for (int sort = 0; sort <= 15; sort++) {
            Due.is("4 sort " + sort, y.reader(sort, 0, 0), 2 + sort);
        }
        Due.is("4 latest as a", y.reader(Yards.MANY, 17, -9), 18);
        Due.is("4 latest as b", y.reader(Yards.OR, 0, 18), 19);
        Due.is("4 name 9", y.reader(Yards.NAME, 9, -9), 20);
        Due.is("4 act 3", y.reader(Yards.ACT, 3, -9), 21);
        Due.is("4 any sign", y.reader(Yards.SIGN, Integer.MIN_VALUE, -9), 22);
        Due.is("4 any range", y.reader(Yards.RANGE, 500, -500), 23);
        Due.is("4 any mark", y.reader(Yards.MARK, 0, Integer.MIN_VALUE), 24);
        for (int number = 25; number < 50; number++) {
            Due.is("4 reader", y.reader(Yards.LAY, -number, 0), number);
        }
        Due.is("4 full", y.reader(Yards.LAY, 0, 0), Yards.FULL);
        Due.is("4 bad ahead of full", y.reader(16, 0, 0), Yards.BAD);
        Due.is("4 bad a ahead of full", y.reader(Yards.MANY, 50, 0), Yards.BAD);
        Due.is("4 still 50", y.count(1), 50);
    }

    private static void readerThatIsBad() {
        ReaderYard y = new ReaderYard();
        Due.is("4 sort -1", y.reader(-1, 0, 0), Yards.BAD);
        Due.is("4 sort 16", y.reader(16, 0, 0), Yards.BAD);
        int[] ofReaders = {4, 5, 6, 7, 8, 9, 11};
        for (int sort : ofReaders) {
            Due.is("4 a is itself, sort " + sort, y.reader(sort, 2, 0), Yards.BAD);
            for (int a : WRONG_NUMBERS) {
                Due.is("4 a " + a + ", sort " + sort, y.reader(sort, a, 0), Yards.BAD);
            }
        }
        for (int b : WRONG_NUMBERS) {
            Due.is("4 THEN b " + b, y.reader(Yards.THEN, 0, b), Yards.BAD);
            Due.is("4 OR b " + b, y.reader(Yards.OR, 0, b), Yards.BAD);
        }
        Due.is("4 THEN b is itself", y.reader(Yards.THEN, 0, 2), Yards.BAD);
        Due.is("4 OR b is itself", y.reader(Yards.OR, 0, 2), Yards.BAD);
        Due.is("4 name 10", y.reader(Yards.NAME, 10, 0), Yards.BAD);
        Due.is("4 name -1", y.reader(Yards.NAME, -1, 0), Yards.BAD);
        Due.is("4 act 4", y.reader(Yards.ACT, 4, 0), Yards.BAD);
        Due.is("4 act -1", y.reader(Yards.ACT, -1, 0), Yards.BAD);
        Due.is("4 none was made", y.count(1), 2);
    }

    private static void name() {
        ReaderYard y = Yards.of("ab");
        int named = y.reader(Yards.NAME, 9, 0);
        Due.is("5 k 10", y.name(10, 0), Yards.BAD);
        Due.is("5 k -1", y.name(-1, 0), Yards.BAD);
        Due.is("5 k 10, none", y.name(10, Yards.NONE), Yards.BAD);
        Due.is("5 no reader yet", y.name(9, 3), Yards.BAD);
        Due.is("5 -2", y.name(9, -2), Yards.BAD);
        Due.is("5 was none", y.name(9, 0), 0);
        Due.is("5 reads", y.read(named, 0), 1);
        Due.is("5 bad leaves it", y.name(9, 77), Yards.BAD);
        Due.is("5 was one", y.name(9, 1), 1);
        Due.is("5 reads the later one", y.read(named, 0), Yards.NONE);
        Due.is("5 taken away", y.name(9, Yards.NONE), 1);
        Due.is("5 none again", y.read(named, 0), -11);
        Due.is("5 was none again", y.name(9, Yards.NONE), 0);
        Due.is("5 others were none", y.name(0, 0), 0);
    }

    private static void read() {
        ReaderYard y = Yards.of("ab");
        Due.is("6 from 0", y.read(0, 0), 1);
        Due.is("6 from 1", y.read(0, 1), 2);
        Due.is("6 at the end", y.read(0, 2), Yards.NONE);
        Due.is("6 behind the end", y.read(0, 3), Yards.BAD);
        Due.is("6 ahead of the text", y.read(0, -1), Yards.BAD);
        Due.is("6 no reader", y.read(2, 0), Yards.BAD);
        Due.is("6 reader -1", y.read(-1, 0), Yards.BAD);
        int lay = y.reader(Yards.LAY, 7, 0);
        int marked = y.reader(Yards.MARK, lay, 4);
        int then = y.reader(Yards.THEN, marked, 1);
        Due.is("6 comes", y.read(marked, 0), 0);
        Due.is("6 laid", y.count(2), 1);
        Due.is("6 comes again", y.read(marked, 0), 0);
        Due.is("6 begins empty", y.count(2), 1);
        Due.is("6 marks begin empty", y.count(3), 1);
        Due.is("6 fails", y.read(then, 0), Yards.NONE);
        Due.is("6 pile is empty", y.count(2), 0);
        Due.is("6 marks are empty", y.count(3), 0);
        int faulty = y.reader(Yards.THEN, marked, y.reader(Yards.ACT, 0, 0));
        Due.is("6 fault", y.read(faulty, 0), -13);
        Due.is("6 pile as it was then", y.pile(0), 7);
        Due.is("6 marks as they were then", y.count(3), 1);
    }

    private static void all() {
        ReaderYard y = Yards.of("aab");
        Due.is("7 no reader", y.all(2), Yards.BAD);
        Due.is("7 reader -1", y.all(-1), Yards.BAD);
        Due.is("7 any", y.all(0), 3);
        Due.is("7 steps go on, with the one that failed", y.count(4), 4);
        Due.is("7 end", y.all(1), 0);
        int a = y.reader(Yards.SIGN, 'a', 0);
        int lay = y.reader(Yards.LAY, 5, 0);
        int laid = y.reader(Yards.THEN, lay, y.reader(Yards.MAYBE, a, 0));
        int marked = y.reader(Yards.MARK, laid, 8);
        Due.is("7 comes further twice", y.all(marked), 2);
        Due.is("7 the one that came no further is taken back", y.count(2), 2);
        Due.is("7 so are its marks", y.count(3), 2);
        Due.is("7 mark 1 from", y.mark(1, 1), 1);
        Due.is("7 mark 1 to", y.mark(1, 2), 2);
        Due.is("7 on lay", y.all(lay), 0);
        Due.is("7 lay is taken back", y.count(2), 0);
        y.name(0, Yards.NONE);
        int orName = y.reader(Yards.OR, a, y.reader(Yards.NAME, 0, 0));
        Due.is("7 fault behind two", y.all(y.reader(Yards.THEN, lay, orName)), -11);
        Due.is("7 pile goes on till the fault", y.count(2), 3);
        allSpent();
    }

    private static void allSpent() {
        ReaderYard y = new ReaderYard();
        for (int i = 0; i < 25; i++) {
            y.text(8, 0);
        }
        int four = Yards.chain(y, 1, 1, 1, 1);
        int eight = Yards.chain(y, y.reader(Yards.MAYBE, four, 0), y.reader(Yards.NOT, four, 0), 0);
        int twice = Yards.chain(y, y.reader(Yards.NOT, eight, 0), eight);
        Due.is("7 eight goes once", y.read(eight, 0), 1);
        Due.is("7 its steps", y.count(4), 9);
        Due.is("7 all of eight", y.all(eight), 200);
        Due.is("7 its steps, with 18 at the end", y.count(4), 1818);
        int longer = y.reader(Yards.OR, twice, eight);
        Due.is("7 longer takes 21", y.read(longer, 0) * 100 + y.count(4), 121);
        Due.is("7 spent in all()", y.all(longer), -15);
        Due.is("7 3000 steps", y.count(4), 3000);
    }

    private static void pile() {
        ReaderYard y = new ReaderYard();
        Due.is("8 none yet", y.pile(0), 0);
        int low = y.reader(Yards.LAY, Integer.MIN_VALUE, 0);
        int high = y.reader(Yards.LAY, Integer.MAX_VALUE, 0);
        y.read(y.reader(Yards.THEN, low, high), 0);
        Due.is("8 top", y.pile(0), Integer.MAX_VALUE);
        Due.is("8 below", y.pile(1), Integer.MIN_VALUE);
        Due.is("8 none", y.pile(2), 0);
        Due.is("8 -1", y.pile(-1), 0);
        Due.is("8 lowest", y.pile(Integer.MIN_VALUE), 0);
        Due.is("8 highest", y.pile(Integer.MAX_VALUE), 0);
        y.read(low, 0);
        Due.is("8 of the latest read", y.pile(0), Integer.MIN_VALUE);
        Due.is("8 of the latest read alone", y.pile(1), 0);
        y.all(0);
        Due.is("8 of the latest all", y.pile(0), 0);
    }

    private static void mark() {
        ReaderYard y = Yards.of("abcd");
        int inner = y.reader(Yards.MARK, 0, -2);
        int outer = y.reader(Yards.MARK, y.reader(Yards.THEN, inner, 0), 6);
        Due.is("9 read", y.read(outer, 1), 3);
        Due.is("9 inner b", y.mark(0, 0), -2);
        Due.is("9 inner from", y.mark(0, 1), 1);
        Due.is("9 inner to", y.mark(0, 2), 2);
        Due.is("9 outer b", y.mark(1, 0), 6);
        Due.is("9 outer from", y.mark(1, 1), 1);
        Due.is("9 outer to", y.mark(1, 2), 3);
        Due.is("9 none", y.mark(2, 0), Yards.NONE);
        Due.is("9 -1", y.mark(-1, 2), Yards.NONE);
        Due.is("9 highest", y.mark(Integer.MAX_VALUE, 1), Yards.NONE);
        Due.is("9 what 3", y.mark(0, 3), Yards.BAD);
        Due.is("9 what -1", y.mark(0, -1), Yards.BAD);
        Due.is("9 bad ahead of none", y.mark(9, 3), Yards.BAD);
    }

    private static void count() {
        ReaderYard y = Yards.of("abc");
        int marked = y.reader(Yards.MARK, 0, 1);
        int lay = y.reader(Yards.LAY, 1, 0);
        int both = y.reader(Yards.THEN, marked, lay);
        y.read(both, 0);
        int[] first = {3, 5, 1, 1, 4, 3, 4, 0, 0};
        counts(y, "first", first);
        y.read(y.reader(Yards.ACT, 0, 0), 0);
        int[] faulty = {3, 6, 0, 0, 1, 1, 5, 1, 3};
        counts(y, "faulty", faulty);
        y.read(y.reader(Yards.NAME, 0, 0), 0);
        int[] again = {3, 7, 0, 0, 1, 1, 6, 2, 1};
        counts(y, "again", again);
        y.all(marked);
        int[] behind = {3, 7, 0, 3, 8, 2, 14, 2, 1};
        counts(y, "behind a fault", behind);
        y.read(y.reader(Yards.NOT, both, 0), 0);
        int[] deepWayFails = {3, 8, 0, 0, 5, 4, 19, 2, 1};
        counts(y, "deep way fails", deepWayFails);
        Due.is("10 what 9", y.count(9), Yards.BAD);
        Due.is("10 what -1", y.count(-1), Yards.BAD);
    }

    private static void counts(ReaderYard y, String when, int[] want) {
        for (int what = 0; what < want.length; what++) {
            Due.is("10 " + when + " count " + what, y.count(what), want[what]);
        }
    }

    private static void badCallsChangeNothing() {
        ReaderYard y = Yards.of("abc");
        int marked = y.reader(Yards.MARK, 0, 1);
        y.read(y.reader(Yards.THEN, marked, y.reader(Yards.LAY, 3, 0)), 0);
        y.read(99, 0);
        y.read(0, 4);
        y.all(-5);
        y.text(0, 1);
        y.reader(16, 0, 0);
        y.name(10, 0);
        int[] want = {3, 5, 1, 1, 4, 3, 4, 0, 0};
        counts(y, "behind bad calls", want);
        Due.is("10 pile behind bad calls", y.pile(0), 3);
        Due.is("10 mark behind bad calls", y.mark(0, 2), 1);
    }

    private static void began() {
        ReaderYard y = Yards.of("ab");
        int named = y.reader(Yards.NAME, 2, 0);
        int many = y.reader(Yards.MANY, named, 0);
        Due.is("11 none yet", y.began(many), 0);
        y.name(2, 0);
        y.read(many, 0);
        Due.is("11 many", y.began(many), 1);
        Due.is("11 named", y.began(named), 3);
        Due.is("11 any", y.began(0), 3);
        Due.is("11 end", y.began(1), 0);
        y.name(2, named);
        Due.is("11 deep", y.read(named, 0), -14);
        Due.is("11 the one refused did not begin", y.began(named), 153);
        for (int number : WRONG_NUMBERS) {
            Due.is("11 began " + number, y.began(number), Yards.BAD);
        }
        Due.is("11 not made yet", y.began(4), Yards.BAD);
    }
}

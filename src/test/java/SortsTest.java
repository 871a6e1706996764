/** What each sort of reader reads, and what is taken back. */
public final class SortsTest {
    public static void main(String[] args) {
        signAndRange();
        then();
        or();
        many();
        maybe();
        notAndAhead();
        nameAsItReads();
        marks();
        bar();
        barInSecondOfOr();
        barThroughOthers();
        figure();
        act();
        takenBackInPlace();
        Due.end();
    }

    private static void signAndRange() {
        ReaderYard y = Yards.of("b");
        Due.is("SIGN", y.read(y.reader(Yards.SIGN, 'b', 0), 0), 1);
        Due.is("SIGN other", y.read(y.reader(Yards.SIGN, 'a', 0), 0), Yards.NONE);
        Due.is("SIGN at the end", y.read(y.reader(Yards.SIGN, 0, 0), 1), Yards.NONE);
        Due.is("SIGN above 127", y.read(y.reader(Yards.SIGN, 'b' + 128, 0), 0), Yards.NONE);
        Due.is("RANGE b b", y.read(y.reader(Yards.RANGE, 'b', 'b'), 0), 1);
        Due.is("RANGE a b", y.read(y.reader(Yards.RANGE, 'a', 'b'), 0), 1);
        Due.is("RANGE b c", y.read(y.reader(Yards.RANGE, 'b', 'c'), 0), 1);
        Due.is("RANGE c d", y.read(y.reader(Yards.RANGE, 'c', 'd'), 0), Yards.NONE);
        Due.is("RANGE A a", y.read(y.reader(Yards.RANGE, 'A', 'a'), 0), Yards.NONE);
        Due.is("RANGE c a", y.read(y.reader(Yards.RANGE, 'c', 'a'), 0), Yards.NONE);
        int widest = y.reader(Yards.RANGE, Integer.MIN_VALUE, Integer.MAX_VALUE);
        Due.is("RANGE of all", y.read(widest, 0), 1);
        Due.is("RANGE at the end", y.read(widest, 1), Yards.NONE);
    }

    private static void then() {
        ReaderYard y = Yards.of("ab");
        int a = y.reader(Yards.SIGN, 'a', 0);
        int b = y.reader(Yards.SIGN, 'b', 0);
        Due.is("THEN", y.read(y.reader(Yards.THEN, a, b), 0), 2);
        Due.is("THEN second fails", y.read(y.reader(Yards.THEN, a, a), 0), Yards.NONE);
        long begunB = y.began(b);
        Due.is("THEN first fails", y.read(y.reader(Yards.THEN, a, b), 1), Yards.NONE);
        Due.is("THEN second did not begin", y.began(b), begunB);
    }

    private static void or() {
        ReaderYard y = Yards.of("ab");
        int lay1 = y.reader(Yards.LAY, 1, 0);
        int lay2 = y.reader(Yards.LAY, 2, 0);
        int a = y.reader(Yards.THEN, y.reader(Yards.MARK, lay1, 1), y.reader(Yards.SIGN, 'a', 0));
        int b = y.reader(Yards.THEN, lay2, y.reader(Yards.SIGN, 'b', 0));
        int or = y.reader(Yards.OR, a, b);
        Due.is("OR first", y.read(or, 0), 1);
        Due.is("OR first laid", y.pile(0), 1);
        Due.is("OR second did not begin", y.began(b), 0);
        Due.is("OR second", y.read(or, 1), 2);
        Due.is("OR second laid", y.pile(0), 2);
        Due.is("OR first is taken back", y.count(2), 1);
        Due.is("OR marks are taken back", y.count(3), 0);
        Due.is("OR neither", y.read(or, 2), Yards.NONE);
    }

    private static void many() {
        ReaderYard y = Yards.of("aaab");
        int a = y.reader(Yards.SIGN, 'a', 0);
        int manyA = y.reader(Yards.MANY, a, 0);
        Due.is("MANY", y.read(manyA, 0), 3);
        Due.is("MANY steps", y.count(4), 5);
        Due.is("MANY none", y.read(manyA, 3), 3);
        Due.is("MANY at the end", y.read(manyA, 4), 4);
        Due.is("MANY of MANY", y.read(y.reader(Yards.MANY, manyA, 0), 0), 3);
        Due.is("MANY of MANY steps", y.count(4), 1 + 5 + 2);
        int lay = y.reader(Yards.LAY, 6, 0);
        int laid = y.reader(Yards.MARK, y.reader(Yards.THEN, lay, y.reader(Yards.MAYBE, a, 0)), 2);
        int manyLaid = y.reader(Yards.MANY, laid, 0);
        Due.is("MANY laid", y.read(manyLaid, 1), 3);
        Due.is("MANY: the last one is taken back", y.count(2), 2);
        Due.is("MANY: its mark too", y.count(3), 2);
        int layThenA = y.reader(Yards.THEN, lay, a);
        Due.is("MANY that fails", y.read(y.reader(Yards.MANY, layThenA, 0), 0), 3);
        Due.is("MANY: the failed one is taken back", y.count(2), 3);
        int inFault = y.reader(Yards.MANY, y.reader(Yards.NAME, 0, 0), 0);
        Due.is("MANY ends by a fault", y.read(inFault, 0), -11);
        y.clear();
        for (int i = 0; i < 25; i++) {
            y.text(8, 0);
        }
        Due.is("MANY over the longest text", y.read(y.reader(Yards.MANY, 0, 0), 0), 200);
        Due.is("MANY tried at its end", y.count(4), 202);
    }

    private static void maybe() {
        ReaderYard y = Yards.of("a");
        int lay = y.reader(Yards.LAY, 6, 0);
        int layThenA = y.reader(Yards.THEN, lay, y.reader(Yards.SIGN, 'a', 0));
        int layThenB = y.reader(Yards.THEN, lay, y.reader(Yards.SIGN, 'b', 0));
        Due.is("MAYBE", y.read(y.reader(Yards.MAYBE, layThenA, 0), 0), 1);
        Due.is("MAYBE laid", y.count(2), 1);
        Due.is("MAYBE not", y.read(y.reader(Yards.MAYBE, layThenB, 0), 0), 0);
        Due.is("MAYBE taken back", y.count(2), 0);
        int faulty = y.reader(Yards.MAYBE, y.reader(Yards.NAME, 0, 0), 0);
        Due.is("MAYBE does not hide a fault", y.read(faulty, 0), -11);
    }

    private static void notAndAhead() {
        ReaderYard y = Yards.of("a");
        int lay = y.reader(Yards.LAY, 6, 0);
        int layThenA = y.reader(Yards.MARK, y.reader(Yards.THEN, lay, y.reader(Yards.SIGN, 'a', 0)), 1);
        int not = y.reader(Yards.NOT, layThenA, 0);
        int ahead = y.reader(Yards.AHEAD, layThenA, 0);
        Due.is("NOT fails", y.read(not, 0), Yards.NONE);
        Due.is("NOT stands", y.read(not, 1), 1);
        Due.is("NOT took back", y.count(2) + y.count(3), 0);
        Due.is("AHEAD stands", y.read(ahead, 0), 0);
        Due.is("AHEAD took back", y.count(2) + y.count(3), 0);
        Due.is("AHEAD fails", y.read(ahead, 1), Yards.NONE);
        Due.is("AHEAD keeps what was ahead of it", y.read(Yards.chain(y, lay, ahead, lay), 0), 0);
        Due.is("AHEAD kept", y.count(2), 2);
        int faulty = y.reader(Yards.NAME, 0, 0);
        Due.is("NOT does not hide a fault", y.read(y.reader(Yards.NOT, faulty, 0), 0), -11);
        Due.is("AHEAD does not hide a fault", y.read(y.reader(Yards.AHEAD, faulty, 0), 0), -11);
    }

    private static void nameAsItReads() {
        ReaderYard y = Yards.of("((x))");
        int open = y.reader(Yards.SIGN, '(', 0);
        int close = y.reader(Yards.SIGN, ')', 0);
        int nested = y.reader(Yards.NAME, 3, 0);
        int bracket = Yards.chain(y, open, nested, close);
        int either = y.reader(Yards.OR, bracket, y.reader(Yards.SIGN, 'x', 0));
        y.name(3, either);
        Due.is("NAME in itself", y.read(either, 0), 5);
        Due.is("NAME from inside", y.read(nested, 1), 4);
        y.name(3, 0);
        Due.is("NAME is another now", y.read(either, 1), 4);
        Due.is("NAME fails with its reader", y.read(nested, 5), Yards.NONE);
    }

    private static void marks() {
        ReaderYard y = Yards.of("ab");
        int marked = y.reader(Yards.MARK, 0, 3);
        int failing = Yards.failing(y);
        Due.is("MARK fails with its reader", y.read(y.reader(Yards.MARK, failing, 3), 0), Yards.NONE);
        Due.is("no MARK", y.count(3), 0);
        int empty = y.reader(Yards.MARK, y.reader(Yards.MAYBE, failing, 0), 5);
        Due.is("MARKs in their order", y.read(Yards.chain(y, empty, marked, marked), 0), 2);
        Due.is("MARK 0", y.mark(0, 0) * 100 + y.mark(0, 1) * 10 + y.mark(0, 2), 500);
        Due.is("MARK 1", y.mark(1, 0) * 100 + y.mark(1, 1) * 10 + y.mark(1, 2), 301);
        Due.is("MARK 2", y.mark(2, 0) * 100 + y.mark(2, 1) * 10 + y.mark(2, 2), 312);
    }

    private static void bar() {
        ReaderYard y = Yards.of("a");
        int bar = y.reader(Yards.BAR, 0, 0);
        int failing = Yards.failing(y);
        Due.is("BAR without an OR", y.read(bar, 1), 1);
        int barThenFail = y.reader(Yards.THEN, bar, failing);
        int barred = y.reader(Yards.OR, barThenFail, 0);
        Due.is("BARRED", y.read(barred, 0), Yards.NONE);
        Due.is("BARRED: the second did not begin", y.began(0), 0);
        Due.is("not BARRED behind a BARRED one", y.read(y.reader(Yards.OR, failing, 0), 0), 1);
        Due.is("the outer OR is not BARRED", y.read(y.reader(Yards.OR, barred, 0), 0), 1);
        int innerDone = y.reader(Yards.OR, bar, 0);
        int innerThenFail = y.reader(Yards.THEN, innerDone, failing);
        Due.is("an OR that ended was BARRED", y.read(y.reader(Yards.OR, innerThenFail, 0), 0), 1);
        Due.is("BAR, and no failing", y.read(innerDone, 0), 0);
        Due.is("BAR ahead of an OR", y.read(Yards.chain(y, bar, y.reader(Yards.OR, failing, 0)), 0), 1);
    }

    private static void barInSecondOfOr() {
        ReaderYard y = Yards.of("a");
        int failing = Yards.failing(y);
        int barThenFail = y.reader(Yards.THEN, y.reader(Yards.BAR, 0, 0), failing);
        int inner = y.reader(Yards.OR, failing, barThenFail);
        Due.is("BAR in a second", y.read(inner, 0), Yards.NONE);
        Due.is("BAR in a second bars the OR outside", y.read(y.reader(Yards.OR, inner, 0), 0), Yards.NONE);
        int twice = y.reader(Yards.OR, y.reader(Yards.OR, inner, failing), 0);
        Due.is("only the nearest of those", y.read(twice, 0), 1);
    }

    private static void barThroughOthers() {
        ReaderYard y = Yards.of("aab");
        int failing = Yards.failing(y);
        int bar = y.reader(Yards.BAR, 0, 0);
        int named = y.reader(Yards.NAME, 0, 0);
        y.name(0, bar);
        int hidden = y.reader(Yards.AHEAD, y.reader(Yards.MARK, named, 1), 0);
        int or = y.reader(Yards.OR, y.reader(Yards.THEN, hidden, failing), 0);
        Due.is("BAR through AHEAD, MARK, NAME", y.read(or, 0), Yards.NONE);
        int failedWay = y.reader(Yards.MAYBE, y.reader(Yards.THEN, bar, failing), 0);
        int orOverFailed = y.reader(Yards.OR, y.reader(Yards.THEN, failedWay, failing), 0);
        Due.is("BAR is not taken back", y.read(orOverFailed, 0), Yards.NONE);
        int a = y.reader(Yards.SIGN, 'a', 0);
        int b = y.reader(Yards.SIGN, 'b', 0);
        int aThenBar = y.reader(Yards.OR, y.reader(Yards.THEN, a, bar), b);
        Due.is("each OR that begins is not BARRED", y.read(y.reader(Yards.MANY, aThenBar, 0), 0), 3);
    }

    private static void figure() {
        ReaderYard y = Yards.of("0/9:12");
        int lay = y.reader(Yards.LAY, 7, 0);
        int figure = y.reader(Yards.FIGURE, 0, 0);
        int layFigure = y.reader(Yards.THEN, lay, figure);
        Due.is("FIGURE 0", y.read(layFigure, 0) * 1000 + y.pile(0), 1070);
        Due.is("FIGURE 9", y.read(layFigure, 2) * 1000 + y.pile(0), 3079);
        Due.is("FIGURE on 47", y.read(layFigure, 1), Yards.NONE);
        Due.is("FIGURE on 58", y.read(layFigure, 3), Yards.NONE);
        Due.is("FIGURE at the end", y.read(layFigure, 6), Yards.NONE);
        Due.is("FIGURE twice", y.read(y.reader(Yards.THEN, layFigure, figure), 4), 6);
        Due.is("FIGURE became", y.pile(0), 712);
        Due.is("FIGURE alone on the pile", y.count(2), 1);
        int layMinus = y.reader(Yards.LAY, -1, 0);
        y.read(y.reader(Yards.THEN, layMinus, figure), 2);
        Due.is("FIGURE below 0", y.pile(0), -1);
        y.clear();
        Yards.put(y, "9223372036854775808");
        int number = y.reader(Yards.THEN, y.reader(Yards.LAY, 0, 0), y.reader(Yards.MANY, figure, 0));
        Due.is("FIGURE of 19", y.read(number, 0), 19);
        Due.is("FIGURE wraps", y.pile(0), Long.MIN_VALUE);
    }

    private static void act() {
        due(0, 7, -2, 5);
        due(1, 7, -2, 9);
        due(2, 7, -2, -14);
        due(3, 7, -2, -3);
        due(3, -7, 2, -3);
        due(3, 0, 5, 0);
        actOnTopOfOthers();
        actWraps();
    }

    private static void due(int deed, int below, int top, long want) {
        ReaderYard y = new ReaderYard();
        int lay = y.reader(Yards.LAY, below, 0);
        int layTop = y.reader(Yards.LAY, top, 0);
        Due.is("ACT " + deed, y.read(Yards.chain(y, lay, layTop, y.reader(Yards.ACT, deed, 0)), 0), 0);
        Due.is("ACT " + deed + " of " + below + ", " + top, y.pile(0), want);
        Due.is("ACT lays one for two", y.count(2), 1);
    }

    private static void actOnTopOfOthers() {
        ReaderYard y = new ReaderYard();
        int one = y.reader(Yards.LAY, 1, 0);
        int two = y.reader(Yards.LAY, 2, 0);
        int add = y.reader(Yards.ACT, 0, 0);
        y.read(Yards.chain(y, one, two, two, add), 0);
        Due.is("ACT sum", y.pile(0), 4);
        Due.is("ACT leaves what is below", y.pile(1), 1);
        Due.is("ACT height", y.count(2), 2);
    }

    private static void actWraps() {
        ReaderYard y = Yards.of("9223372036854775808");
        int figures = y.reader(Yards.MANY, y.reader(Yards.FIGURE, 0, 0), 0);
        int lowest = y.reader(Yards.THEN, y.reader(Yards.LAY, 0, 0), figures);
        int minus = y.reader(Yards.LAY, -1, 0);
        long[] want = {Long.MAX_VALUE, Long.MIN_VALUE + 1, Long.MIN_VALUE, Long.MIN_VALUE};
        for (int deed = 0; deed < 4; deed++) {
            y.read(Yards.chain(y, lowest, minus, y.reader(Yards.ACT, deed, 0)), 0);
            Due.is("ACT " + deed + " of the lowest and -1", y.pile(0), want[deed]);
        }
    }

    /** A number that FIGURE changed, or ACT took, must be there again behind a failing way. */
    private static void takenBackInPlace() {
        ReaderYard y = Yards.of("5x");
        int lay = y.reader(Yards.LAY, 3, 0);
        int lay4 = y.reader(Yards.LAY, 4, 0);
        int figure = y.reader(Yards.FIGURE, 0, 0);
        int tried = y.reader(Yards.MAYBE, y.reader(Yards.THEN, figure, figure), 0);
        Due.is("FIGURE taken back", y.read(y.reader(Yards.THEN, lay, tried), 0), 0);
        Due.is("FIGURE: the number is as it was", y.pile(0), 3);
        int deeds = Yards.chain(y, y.reader(Yards.ACT, 2, 0), lay, lay, lay, Yards.failing(y));
        int triedDeeds = y.reader(Yards.MAYBE, deeds, 0);
        Due.is("ACT taken back", y.read(Yards.chain(y, lay, lay4, triedDeeds), 0), 0);
        Due.is("ACT: top is as it was", y.pile(0), 4);
        Due.is("ACT: below is as it was", y.pile(1), 3);
        Due.is("ACT: height is as it was", y.count(2), 2);
    }
}

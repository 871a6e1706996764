/** Sort by sort, the sentences of '2 SORTS' that name an edge: just inside it, just outside it. */
public final class SortEdgesTest {
    private static final long LOWEST = Long.MIN_VALUE, HIGHEST = Long.MAX_VALUE;

    public static void main(String[] args) {
        signs();
        ranges();
        anyAndEnd();
        smallOnesWhereTheTextEnds();
        thenStopsOrGoesOn();
        orFromTheSamePlace();
        manyNoneAndMost();
        manyTakesTheLastBack();
        maybeOnEdges();
        notOnEdges();
        aheadOnEdges();
        nameTakesBack();
        markOnlyBehind();
        barOnTheNearest();
        barOnlyWhileTheFirstReads();
        barThroughEachSort();
        figures();
        figureWraps();
        figureLacks();
        actWraps();
        actCuts();
        takenBackFromAPlace();
        takenBackThroughThen();
        Due.end();
    }

    private static void signs() {
        int[] outside = {-1, 128, 255, 256, Integer.MIN_VALUE, Integer.MAX_VALUE};
        ReaderYard y = new ReaderYard();
        y.text(3, 0x7f_00_40);
        Due.is("SIGN 64", y.read(y.reader(Yards.SIGN, 64, 0), 0), 1);
        Due.is("SIGN 0", y.read(y.reader(Yards.SIGN, 0, 0), 1), 2);
        Due.is("SIGN 127", y.read(y.reader(Yards.SIGN, 127, 0), 2), 3);
        Due.is("SIGN 63 on 64", y.read(y.reader(Yards.SIGN, 63, 0), 0), Yards.NONE);
        Due.is("SIGN 65 on 64", y.read(y.reader(Yards.SIGN, 65, 0), 0), Yards.NONE);
        for (int a : outside) {
            int sign = y.reader(Yards.SIGN, a, 0);
            for (int place = 0; place <= 3; place++) {
                Due.is("SIGN " + a + " at " + place, y.read(sign, place), Yards.NONE);
            }
        }
    }

    private static void ranges() {
        range(65, 70, new int[] {64, 71}, new int[] {65, 66, 69, 70});
        range(65, 65, new int[] {64, 66}, new int[] {65});
        range(0, 127, new int[] {}, new int[] {0, 1, 126, 127});
        range(1, 126, new int[] {0, 127}, new int[] {1, 126});
        range(-5, 0, new int[] {1, 127}, new int[] {0});
        range(127, 300, new int[] {0, 126}, new int[] {127});
        range(128, 300, new int[] {0, 127}, new int[] {});
        range(70, 65, new int[] {64, 65, 67, 70, 71}, new int[] {});
        range(-9, -1, new int[] {0, 127}, new int[] {});
        range(Integer.MIN_VALUE, Integer.MAX_VALUE, new int[] {}, new int[] {0, 64, 127});
        range(Integer.MAX_VALUE, Integer.MIN_VALUE, new int[] {0, 64, 127}, new int[] {});
    }

    private static void range(int a, int b, int[] outside, int[] inside) {
        ReaderYard y = new ReaderYard();
        int range = y.reader(Yards.RANGE, a, b);
        for (int sign : inside) {
            y.clear();
            y.text(1, sign);
            Due.is("RANGE " + a + " " + b + " on " + sign, y.read(range, 0), 1);
        }
        for (int sign : outside) {
            y.clear();
            y.text(1, sign);
            Due.is("RANGE " + a + " " + b + " on " + sign, y.read(range, 0), Yards.NONE);
        }
        Due.is("RANGE " + a + " " + b + " at the end", y.read(range, y.count(0)), Yards.NONE);
    }

    private static void anyAndEnd() {
        for (int sign = 0; sign <= 127; sign++) {
            ReaderYard y = new ReaderYard();
            y.text(1, sign);
            Due.is("ANY on " + sign, y.read(0, 0), 1);
            Due.is("END on " + sign, y.read(1, 0), Yards.NONE);
            Due.is("ANY behind " + sign, y.read(0, 1), Yards.NONE);
            Due.is("END behind " + sign, y.read(1, 1), 1);
        }
    }

    /** An empty text, one that ends where older signs stood, and a full one. */
    private static void smallOnesWhereTheTextEnds() {
        for (int length = 0; length <= 200; length += 50) {
            ReaderYard y = Yards.ofLength(200);
            y.clear();
            Yards.lengthen(y, length);
            int[] failing = {0, y.reader(Yards.SIGN, 'a', 0), y.reader(Yards.SIGN, 0, 0),
                y.reader(Yards.RANGE, 0, 127), y.reader(Yards.FIGURE, 0, 0)};
            for (int reader : failing) {
                Due.is("reader " + reader + " at the end " + length, y.read(reader, length), Yards.NONE);
            }
            int[] staying = {1, y.reader(Yards.LAY, 0, 0), y.reader(Yards.BAR, 0, 0),
                y.reader(Yards.MANY, 0, 0), y.reader(Yards.MAYBE, 0, 0), y.reader(Yards.NOT, 0, 0),
                y.reader(Yards.AHEAD, 1, 0)};
            for (int reader : staying) {
                Due.is("reader " + reader + " at the end " + length, y.read(reader, length), length);
            }
        }
    }

    private static void thenStopsOrGoesOn() {
        ReaderYard y = Yards.of("ab");
        int a = y.reader(Yards.SIGN, 'a', 0);
        int b = y.reader(Yards.SIGN, 'b', 0);
        Due.is("THEN to the end", y.read(Yards.chain(y, a, b, 1), 0), 2);
        Due.is("THEN over the end", y.read(Yards.chain(y, a, b, 0), 0), Yards.NONE);
        Due.is("THEN of what stays", y.read(y.reader(Yards.THEN, 1, 1), 2), 2);
        int begun = y.began(b);
        Due.is("THEN, the first fails", y.read(y.reader(Yards.THEN, b, b), 0), Yards.NONE);
        Due.is("THEN, the second does not begin", y.began(b), begun + 1);
        int faulty = y.reader(Yards.NAME, 0, 0);
        Due.is("THEN, the first fails ahead of a fault", y.read(y.reader(Yards.THEN, b, faulty), 0), Yards.NONE);
        Due.is("THEN, a fault ahead of failing", y.read(y.reader(Yards.THEN, faulty, b), 0), -11);
    }

    private static void orFromTheSamePlace() {
        ReaderYard y = Yards.of("aab");
        int a = y.reader(Yards.SIGN, 'a', 0);
        int farThenFail = Yards.chain(y, a, a, a);
        Due.is("OR: the second is from the same place", y.read(y.reader(Yards.OR, farThenFail, a), 0), 1);
        Due.is("OR: a first that stays does not fail", y.read(y.reader(Yards.OR, y.reader(Yards.MAYBE, 1, 0), 0), 0), 0);
        Due.is("OR: both fail", y.read(y.reader(Yards.OR, farThenFail, 1), 0), Yards.NONE);
        int faulty = y.reader(Yards.NAME, 0, 0);
        Due.is("OR: a fault is no failing", y.read(y.reader(Yards.OR, faulty, 0), 0), -11);
        Due.is("OR: a first that does not fail", y.read(y.reader(Yards.OR, a, faulty), 0), 1);
    }

    private static void manyNoneAndMost() {
        ReaderYard y = Yards.ofLength(200);
        int many = y.reader(Yards.MANY, 0, 0);
        Due.is("MANY 200", y.read(many, 0), 200);
        Due.is("MANY 1", y.read(many, 199), 200);
        Due.is("MANY 0", y.read(many, 200), 200);
        Due.is("MANY 0: it tried once", y.count(4), 2);
        Due.is("MANY never fails", y.read(y.reader(Yards.MANY, Yards.failing(y), 0), 7), 7);
        int stays = y.reader(Yards.MANY, y.reader(Yards.LAY, 1, 0), 0);
        Due.is("MANY of what stays", y.read(stays, 7), 7);
        Due.is("MANY of what stays: once", y.count(4), 2);
        Due.is("MANY of what stays: taken back", y.count(2), 0);
        Due.is("MANY of MANY", y.read(y.reader(Yards.MANY, many, 0), 0), 200);
        Due.is("MANY of MANY: once more at the end", y.count(4), 1 + 202 + 2);
    }

    /** The last one is taken back, those ahead of it are not. */
    private static void manyTakesTheLastBack() {
        ReaderYard y = Yards.of("aab");
        int lay = y.reader(Yards.LAY, 3, 0);
        int a = y.reader(Yards.SIGN, 'a', 0);
        int marked = y.reader(Yards.MARK, y.reader(Yards.THEN, lay, a), 5);
        Due.is("MANY till it fails", y.read(y.reader(Yards.MANY, marked, 0), 0), 2);
        Due.is("MANY: numbers", y.count(2), 2);
        Due.is("MANY: marks", y.count(3), 2);
        int maybe = y.reader(Yards.MAYBE, a, 0);
        int staying = y.reader(Yards.MARK, y.reader(Yards.THEN, lay, maybe), 5);
        Due.is("MANY till it comes no further", y.read(y.reader(Yards.MANY, staying, 0), 0), 2);
        Due.is("MANY: numbers of those that went", y.count(2), 2);
        Due.is("MANY: marks of those that went", y.count(3), 2);
        int sums = y.reader(Yards.MANY, y.reader(Yards.ACT, 0, 0), 0);
        Due.is("MANY of a sum", y.read(Yards.chain(y, lay, lay, sums), 0), 0);
        Due.is("MANY: the sum is taken back", y.count(2), 2);
        Due.is("MANY: x is there again", y.pile(0), 3);
        Due.is("MANY: what came ahead of it stays", y.read(Yards.chain(y, lay, sums), 0), -13);
    }

    private static void maybeOnEdges() {
        ReaderYard y = Yards.of("5");
        int lay = y.reader(Yards.LAY, 3, 0);
        int figure = y.reader(Yards.FIGURE, 0, 0);
        int maybe = y.reader(Yards.MAYBE, y.reader(Yards.THEN, figure, figure), 0);
        Due.is("MAYBE where that fails", y.read(Yards.chain(y, lay, maybe), 0), 0);
        Due.is("MAYBE: taken back", y.pile(0), 3);
        Due.is("MAYBE where it does not", y.read(Yards.chain(y, lay, y.reader(Yards.MAYBE, figure, 0)), 0), 1);
        Due.is("MAYBE: not taken back", y.pile(0), 35);
        Due.is("MAYBE of what stays", y.read(y.reader(Yards.MAYBE, lay, 0), 1), 1);
        Due.is("MAYBE of what stays: laid", y.count(2), 1);
    }

    private static void notOnEdges() {
        ReaderYard y = Yards.of("5");
        int lay = y.reader(Yards.LAY, 3, 0);
        int sum = y.reader(Yards.ACT, 0, 0);
        int fails = Yards.chain(y, sum, y.reader(Yards.MARK, lay, 1), Yards.failing(y));
        Due.is("NOT of what fails", y.read(Yards.chain(y, lay, lay, y.reader(Yards.NOT, fails, 0)), 0), 0);
        Due.is("NOT: numbers as they were", y.count(2) * 10 + y.pile(0), 23);
        Due.is("NOT: marks as they were", y.count(3), 0);
        int stays = y.reader(Yards.NOT, sum, 0);
        int notOrNothing = y.reader(Yards.MAYBE, stays, 0);
        Due.is("NOT of what stays fails", y.read(Yards.chain(y, lay, lay, stays), 0), Yards.NONE);
        Due.is("NOT of what stays", y.read(Yards.chain(y, lay, lay, notOrNothing), 0), 0);
        Due.is("NOT: the sum is taken back", y.count(2) * 10 + y.pile(0), 23);
        Due.is("NOT of NOT", y.read(y.reader(Yards.NOT, y.reader(Yards.NOT, 0, 0), 0), 0), 0);
    }

    private static void aheadOnEdges() {
        ReaderYard y = Yards.of("5");
        int lay = y.reader(Yards.LAY, 3, 0);
        int figure = y.reader(Yards.FIGURE, 0, 0);
        int marked = y.reader(Yards.MARK, figure, 2);
        int ahead = y.reader(Yards.AHEAD, marked, 0);
        Due.is("AHEAD of what goes on", y.read(Yards.chain(y, lay, ahead), 0), 0);
        Due.is("AHEAD: the number is as it was", y.count(2) * 10 + y.pile(0), 13);
        Due.is("AHEAD: no mark", y.count(3), 0);
        Due.is("AHEAD of what fails", y.read(Yards.chain(y, lay, ahead), 1), Yards.NONE);
        int sum = y.reader(Yards.AHEAD, y.reader(Yards.ACT, 0, 0), 0);
        Due.is("AHEAD of what stays", y.read(Yards.chain(y, lay, lay, sum), 1), 1);
        Due.is("AHEAD: the sum is taken back", y.count(2) * 10 + y.pile(0), 23);
        Due.is("AHEAD, then that", y.read(Yards.chain(y, lay, ahead, marked), 0), 1);
        Due.is("AHEAD, then that: once", y.pile(0) * 10 + y.count(3), 351);
    }

    private static void nameTakesBack() {
        ReaderYard y = Yards.of("5");
        int lay = y.reader(Yards.LAY, 3, 0);
        int figure = y.reader(Yards.FIGURE, 0, 0);
        int named = y.reader(Yards.NAME, 9, 0);
        y.name(9, y.reader(Yards.THEN, figure, figure));
        Due.is("NAME fails", y.read(Yards.chain(y, lay, named), 0), Yards.NONE);
        Due.is("NAME in an OR", y.read(Yards.chain(y, lay, y.reader(Yards.OR, named, figure)), 0), 1);
        Due.is("NAME: taken back", y.pile(0), 35);
        y.name(9, figure);
        Due.is("NAME as it READS", y.read(Yards.chain(y, lay, named), 0), 1);
        y.name(9, y.reader(Yards.NAME, 8, 0));
        Due.is("NAME of a NAME that is none", y.read(named, 0), -11);
        Due.is("NAME of a NAME: both began", y.count(4) * 10 + y.count(5), 22);
    }

    private static void markOnlyBehind() {
        ReaderYard y = Yards.of("ab");
        int inner = y.reader(Yards.MARK, 0, 1);
        int outer = y.reader(Yards.MARK, y.reader(Yards.THEN, inner, inner), 2);
        Due.is("MARK in MARK", y.read(outer, 0), 2);
        Due.is("MARK: the inner ones first", y.mark(0, 0) * 100 + y.mark(1, 0) * 10 + y.mark(2, 0), 112);
        Due.is("MARK: the outer one", y.mark(2, 1) * 10 + y.mark(2, 2), 2);
        Due.is("MARK fails, the inner one did not", y.read(outer, 1), Yards.NONE);
        Due.is("MARK: none", y.count(3), 0);
        int faulty = y.reader(Yards.MARK, y.reader(Yards.THEN, inner, y.reader(Yards.NAME, 0, 0)), 2);
        Due.is("MARK with a fault in it", y.read(faulty, 0), -11);
        Due.is("MARK: the inner one alone", y.count(3) * 10 + y.mark(0, 0), 11);
    }

    private static void barOnTheNearest() {
        ReaderYard y = Yards.of("a");
        int failing = Yards.failing(y);
        int bar = y.reader(Yards.BAR, 0, 0);
        int barThenFail = y.reader(Yards.THEN, bar, failing);
        int inner = y.reader(Yards.OR, barThenFail, 0);
        Due.is("BAR without an OR", y.read(barThenFail, 0), Yards.NONE);
        Due.is("BAR stays where it is", y.read(bar, 0), 0);
        Due.is("BAR stays at the end", y.read(bar, 1), 1);
        Due.is("BARRED", y.read(inner, 0), Yards.NONE);
        Due.is("BAR: not the OR outside", y.read(y.reader(Yards.OR, inner, 0), 0), 1);
        int twice = y.reader(Yards.OR, y.reader(Yards.THEN, bar, inner), 0);
        Due.is("BAR in each of two", y.read(twice, 0), Yards.NONE);
        Due.is("BAR, and the first does not fail", y.read(y.reader(Yards.OR, Yards.chain(y, bar, 0), 1), 0), 1);
        Due.is("MAYBE of a BARRED one", y.read(y.reader(Yards.MAYBE, inner, 0), 0), 0);
        Due.is("NOT of a BARRED one", y.read(y.reader(Yards.NOT, inner, 0), 0), 0);
        Due.is("all() without an OR", y.all(y.reader(Yards.THEN, bar, 0)), 1);
    }

    /** An OR is no longer BARRED by what its second reads, nor by what comes behind it. */
    private static void barOnlyWhileTheFirstReads() {
        ReaderYard y = Yards.of("aab");
        int failing = Yards.failing(y);
        int bar = y.reader(Yards.BAR, 0, 0);
        int inSecond = y.reader(Yards.OR, failing, y.reader(Yards.THEN, bar, failing));
        Due.is("BAR in the second: the OR outside", y.read(y.reader(Yards.OR, inSecond, 0), 0), Yards.NONE);
        int or = y.reader(Yards.OR, failing, 0);
        Due.is("BAR ahead of an OR", y.read(y.reader(Yards.THEN, bar, or), 0), 1);
        Due.is("BAR behind an OR", y.read(Yards.chain(y, or, bar, or), 0), 2);
        int a = y.reader(Yards.SIGN, 'a', 0);
        int aThenBar = y.reader(Yards.OR, y.reader(Yards.THEN, a, bar), 0);
        Due.is("an OR that begins again", y.all(aThenBar), 3);
        int named = y.reader(Yards.NAME, 0, 0);
        int deeper = y.reader(Yards.OR, Yards.chain(y, a, bar, named), 0);
        y.name(0, deeper);
        Due.is("an OR in itself", y.read(deeper, 0), 3);
        y.name(0, y.reader(Yards.OR, Yards.chain(y, a, bar, named, failing), 0));
        Due.is("each of an OR in itself", y.read(named, 0), Yards.NONE);
    }

    /** The OR outside is BARRED through each sort between, but for an OR whose own first reads it. */
    private static void barThroughEachSort() {
        ReaderYard y = Yards.of("a");
        int failing = Yards.failing(y);
        int bar = y.reader(Yards.BAR, 0, 0);
        y.name(9, bar);
        int[] between = {y.reader(Yards.THEN, bar, failing), y.reader(Yards.THEN, 0, bar),
            y.reader(Yards.OR, failing, bar), y.reader(Yards.MANY, bar, 0), y.reader(Yards.MAYBE, bar, 0),
            y.reader(Yards.NOT, bar, 0), y.reader(Yards.AHEAD, bar, 0), y.reader(Yards.NAME, 9, 0),
            y.reader(Yards.MARK, bar, 0)};
        for (int reader : between) {
            int outside = y.reader(Yards.OR, y.reader(Yards.THEN, reader, failing), 0);
            Due.is("BAR through reader " + reader, y.read(outside, 0), Yards.NONE);
        }
        int taken = y.reader(Yards.OR, bar, failing);
        int outside = y.reader(Yards.OR, y.reader(Yards.THEN, taken, failing), 0);
        Due.is("BAR in the first of an OR between", y.read(outside, 0), 1);
    }

    private static void figures() {
        for (int sign = 0; sign <= 127; sign++) {
            ReaderYard y = new ReaderYard();
            y.text(1, sign);
            int lay = y.reader(Yards.LAY, 7, 0);
            int figure = y.reader(Yards.FIGURE, 0, 0);
            boolean fits = sign >= 48 && sign <= 57;
            Due.is("FIGURE on " + sign, y.read(Yards.chain(y, lay, figure), 0), fits ? 1 : Yards.NONE);
            Due.is("FIGURE on " + sign + " makes", y.pile(0), fits ? 70 + sign - 48 : 0);
            Due.is("FIGURE on " + sign + ", no number", y.read(figure, 0), fits ? -13 : Yards.NONE);
        }
    }

    private static void figureWraps() {
        figured("9223372036854775807", 0, HIGHEST);
        figured("9223372036854775808", 0, LOWEST);
        figured("18446744073709551615", 0, -1);
        figured("18446744073709551616", 0, 0);
        figured("99999999999999999999", 0, 7766279631452241919L);
        figured("00000000000000000000", -1, -7766279631452241920L);
        figured("9", -1, -1);
        figured("0", Integer.MAX_VALUE, 21474836470L);
        figured("9", Integer.MIN_VALUE, -21474836471L);
    }

    private static void figured(String text, int laid, long want) {
        ReaderYard y = Yards.of(text);
        int many = y.reader(Yards.MANY, y.reader(Yards.FIGURE, 0, 0), 0);
        Due.is("FIGURES of " + text, y.read(Yards.chain(y, y.reader(Yards.LAY, laid, 0), many), 0), text.length());
        Due.is("FIGURES of " + text + " make", y.pile(0), want);
    }

    private static void figureLacks() {
        ReaderYard y = Yards.of("5x");
        int figure = y.reader(Yards.FIGURE, 0, 0);
        int lay = y.reader(Yards.LAY, 1, 0);
        Due.is("FIGURE with a number", y.read(Yards.chain(y, lay, figure), 0), 1);
        Due.is("FIGURE without one", y.read(figure, 0), -13);
        Due.is("FIGURE without its SIGN", y.read(figure, 1), Yards.NONE);
        Due.is("FIGURE at the end", y.read(figure, 2), Yards.NONE);
        int takenBack = y.reader(Yards.AHEAD, lay, 0);
        Due.is("FIGURE where the number is taken back", y.read(Yards.chain(y, takenBack, figure), 0), -13);
    }

    private static void actWraps() {
        acted(0, HIGHEST, 1, LOWEST);
        acted(0, HIGHEST, 0, HIGHEST);
        acted(0, LOWEST, -1, HIGHEST);
        acted(1, LOWEST, 1, HIGHEST);
        acted(1, HIGHEST, -1, LOWEST);
        acted(1, LOWEST, 0, LOWEST);
        acted(2, HIGHEST, 2, -2);
        acted(2, LOWEST, 2, 0);
        acted(2, LOWEST, -1, LOWEST);
        acted(2, HIGHEST, -1, -HIGHEST);
        acted(3, LOWEST, -1, LOWEST);
        acted(3, LOWEST, 1, LOWEST);
        acted(3, HIGHEST, -1, -HIGHEST);
        acted(3, LOWEST, 2, LOWEST / 2);
    }

    /** y is HIGHEST or LOWEST, which only FIGURES can bring on the pile. */
    private static void acted(int deed, long below, int top, long want) {
        ReaderYard y = Yards.of(below == HIGHEST ? "9223372036854775807" : "9223372036854775808");
        int many = y.reader(Yards.MANY, y.reader(Yards.FIGURE, 0, 0), 0);
        int lay0 = y.reader(Yards.LAY, 0, 0);
        int act = y.reader(Yards.ACT, deed, 0);
        int whole = Yards.chain(y, lay0, many, y.reader(Yards.LAY, top, 0), act);
        Due.is("ACT " + deed + " comes", y.read(whole, 0), 19);
        Due.is("ACT " + deed + " of " + below + " and " + top, y.pile(0), want);
        Due.is("ACT " + deed + " leaves one", y.count(2), 1);
    }

    private static void actCuts() {
        int[][] rows = {{7, 2, 3}, {-7, 2, -3}, {7, -2, -3}, {-7, -2, 3}, {1, 2, 0}, {-1, 2, 0},
            {6, 3, 2}, {0, 1, 0}, {0, -1, 0}, {5, 1, 5}, {5, -1, -5}, {5, 6, 0}, {5, 5, 1}};
        for (int[] row : rows) {
            ReaderYard y = new ReaderYard();
            int below = y.reader(Yards.LAY, row[0], 0);
            int top = y.reader(Yards.LAY, row[1], 0);
            y.read(Yards.chain(y, below, top, y.reader(Yards.ACT, 3, 0)), 0);
            Due.is("ACT 3 of " + row[0] + " and " + row[1], y.pile(0), row[2]);
        }
    }

    /** What was there when the one that fails began stays; what it did itself goes. */
    private static void takenBackFromAPlace() {
        ReaderYard y = Yards.of("a1");
        int lay1 = y.reader(Yards.LAY, 1, 0);
        int lay2 = y.reader(Yards.LAY, 2, 0);
        int marked = y.reader(Yards.MARK, lay1, 1);
        int sum = y.reader(Yards.ACT, 0, 0);
        int fails = Yards.chain(y, sum, y.reader(Yards.MARK, lay2, 2), Yards.failing(y));
        int or = y.reader(Yards.OR, fails, 0);
        Due.is("TAKEN BACK in an OR", y.read(Yards.chain(y, marked, lay2, or), 0), 1);
        Due.is("TAKEN BACK: height", y.count(2), 2);
        Due.is("TAKEN BACK: x", y.pile(0), 2);
        Due.is("TAKEN BACK: y", y.pile(1), 1);
        Due.is("TAKEN BACK: marks", y.count(3) * 10 + y.mark(0, 0), 11);
        Due.is("TAKEN BACK twice", y.read(Yards.chain(y, marked, lay2, y.reader(Yards.MAYBE, fails, 0), or), 0), 1);
        Due.is("TAKEN BACK twice: height", y.count(2), 2);
        Due.is("TAKEN BACK twice: x", y.pile(0), 2);
        Due.is("TAKEN BACK: another is laid in its place", y.read(Yards.chain(y, lay1, lay2, or, lay1), 0), 1);
        Due.is("TAKEN BACK: that and those below", y.pile(0) * 100 + y.pile(1) * 10 + y.pile(2), 121);
    }

    private static void takenBackThroughThen() {
        ReaderYard y = Yards.of("12x");
        int lay = y.reader(Yards.LAY, 0, 0);
        int figure = y.reader(Yards.FIGURE, 0, 0);
        int three = Yards.chain(y, figure, figure, figure);
        int two = Yards.chain(y, figure, figure);
        int or = y.reader(Yards.OR, three, y.reader(Yards.OR, y.reader(Yards.THEN, two, figure), two));
        Due.is("TAKEN BACK behind two FIGURES", y.read(Yards.chain(y, lay, or), 0), 2);
        Due.is("TAKEN BACK: 12", y.pile(0), 12);
        Due.is("TAKEN BACK: all of it", y.read(Yards.chain(y, lay, three), 0), Yards.NONE);
        Due.is("TAKEN BACK: nothing is left", y.count(2), 0);
        Due.is("TAKEN BACK: no number", y.pile(0), 0);
    }
}

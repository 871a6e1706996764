/** The faults 1 to 5: where they come, what they leave, which comes first. */
public final class FaultsTest {
    public static void main(String[] args) {
        empty();
        zero();
        lack();
        deep();
        spent();
        deepAheadOfSpent();
        Due.end();
    }

    private static void empty() {
        ReaderYard y = new ReaderYard();
        int named = y.reader(Yards.NAME, 0, 0);
        Due.is("EMPTY", y.read(named, 0), -11);
        Due.is("EMPTY: the NAME began", y.count(4), 1);
        Due.is("EMPTY: it is the latest", y.count(8), 1);
        Due.is("EMPTY ends an OR", y.read(y.reader(Yards.OR, named, 1), 0), -11);
        Due.is("EMPTY: the second did not begin", y.began(1), 0);
        int lay = y.reader(Yards.LAY, 2, 0);
        int inNot = y.reader(Yards.NOT, Yards.chain(y, y.reader(Yards.MARK, lay, 1), named), 0);
        Due.is("EMPTY inside NOT", y.read(inNot, 0), -11);
        Due.is("EMPTY: the pile is what it was then", y.count(2), 1);
        Due.is("EMPTY: the marks are what they were then", y.count(3), 1);
        Due.is("EMPTY in all()", y.all(named), -11);
        Due.is("EMPTY: four had it", y.count(7), 4);
    }

    private static void zero() {
        ReaderYard y = new ReaderYard();
        int lay0 = y.reader(Yards.LAY, 0, 0);
        int lay5 = y.reader(Yards.LAY, 5, 0);
        int divide = y.reader(Yards.ACT, 3, 0);
        Due.is("ZERO", y.read(Yards.chain(y, lay5, lay0, divide), 0), -12);
        Due.is("ZERO: x is still there", y.pile(0), 0);
        Due.is("ZERO: y is still there", y.pile(1), 5);
        Due.is("ZERO: height", y.count(2), 2);
        Due.is("ZERO divided", y.read(Yards.chain(y, lay0, lay5, divide), 0), 0);
        Due.is("LACK where x is 0 and y lacks", y.read(Yards.chain(y, lay0, divide), 0), -13);
        Due.is("no ZERO in other deeds", y.read(Yards.chain(y, lay5, lay0, y.reader(Yards.ACT, 2, 0)), 0), 0);
    }

    private static void lack() {
        ReaderYard y = Yards.of("1x");
        int lay = y.reader(Yards.LAY, 5, 0);
        int figure = y.reader(Yards.FIGURE, 0, 0);
        Due.is("LACK of FIGURE", y.read(figure, 0), -13);
        Due.is("FIGURE fails ahead of LACK", y.read(figure, 1), Yards.NONE);
        Due.is("FIGURE fails at the end", y.read(figure, 2), Yards.NONE);
        for (int deed = 0; deed < 4; deed++) {
            int act = y.reader(Yards.ACT, deed, 0);
            Due.is("LACK of two", y.read(act, 0), -13);
            Due.is("LACK of one", y.read(Yards.chain(y, lay, act), 0), -13);
            Due.is("LACK: what was there stays", y.pile(0), 5);
        }
        Due.is("LACK: nine had it", y.count(7), 9);
    }

    private static void deep() {
        ReaderYard y = Yards.of("a".repeat(48));
        int named = y.reader(Yards.NAME, 0, 0);
        int round = y.reader(Yards.MAYBE, y.reader(Yards.THEN, 0, named), 0);
        y.name(0, round);
        Due.is("three readers for each sign", y.read(named, 0), 48);
        Due.is("three readers for each sign, and four", y.count(5), 148);
        int in150 = y.reader(Yards.MAYBE, y.reader(Yards.MAYBE, named, 0), 0);
        Due.is("150 under way", y.read(in150, 0), 48);
        Due.is("150 deep", y.count(5), 150);
        Due.is("no fault yet", y.count(8), 0);
        int begunAny = y.began(0);
        int in151 = y.reader(Yards.MAYBE, in150, 0);
        Due.is("DEEP", y.read(in151, 0), -14);
        Due.is("DEEP: how deep it came", y.count(5), 150);
        Due.is("DEEP: the one refused did not begin", y.began(0) - begunAny, 48);
        Due.is("DEEP: it is the latest", y.count(8), 4);
        Due.is("deep no more", y.read(0, 0), 1);
        Due.is("how deep the latest came", y.count(5), 1);
        Due.is("DEEP stays the latest fault", y.count(8), 4);
    }

    private static void spent() {
        ReaderYard y = Yards.of("a".repeat(200));
        int last = Yards.spender(y, 3000);
        Due.is("3000 steps", y.read(last, 0), 0);
        Due.is("3000 steps are counted", y.count(4), 3000);
        int numbers = y.count(2);
        int begunLast = y.began(last);
        int tooMany = y.reader(Yards.MAYBE, last, 0);
        Due.is("SPENT", y.read(tooMany, 0), -15);
        Due.is("SPENT: 3000 steps", y.count(4), 3000);
        Due.is("SPENT: steps ever", y.count(6), 6000);
        Due.is("SPENT: the last one was refused", y.count(2), numbers - 1);
        Due.is("SPENT: it is the latest", y.count(8), 5);
        Due.is("each call has its own steps", y.read(last, 0), 0);
        Due.is("began ever", y.began(last), begunLast + 2);
    }

    private static void deepAheadOfSpent() {
        ReaderYard y = Yards.of("a".repeat(200));
        int self = y.reader(Yards.NAME, 0, 0);
        y.name(0, self);
        int spends2850 = Yards.spender(y, 2850);
        Due.is("2850 steps", y.read(spends2850, 0) + y.count(4), 2850);
        Due.is("DEEP ahead of SPENT", y.read(y.reader(Yards.THEN, spends2850, self), 0), -14);
        Due.is("both were due", y.count(4) + y.count(5), 3150);
        int spends2851 = y.reader(Yards.MAYBE, spends2850, 0);
        Due.is("SPENT one ahead of DEEP", y.read(y.reader(Yards.THEN, spends2851, self), 0), -15);
        Due.is("149 deep then", y.count(5), 149);
    }
}

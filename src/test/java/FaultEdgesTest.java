/** The limits of '3 FAULTS' for each sort that can meet them: the last one inside, the first outside. */
public final class FaultEdgesTest {
    private static final int EMPTY = -11, ZERO = -12, LACK = -13, DEEP = -14, SPENT = -15;

    /** Sorts that read no other READER, with an a that each takes; NAME 3 is none. */
    private static final int[][] ALONE = {{0, 'a'}, {1, 'a'}, {2, 0}, {3, 0}, {10, 3}, {12, 0}, {13, 4},
        {14, 0}, {15, 0}};

    /** The places in which a READER can stand in another. */
    private static final int THEN_A = 0, THEN_B = 1, OR_A = 2, OR_B = 3, OF_ONE = 4, OF_NAME = 5;
    private static final int[][] JOINED = {{THEN_A, 4}, {THEN_B, 4}, {OR_A, 5}, {OR_B, 5}, {OF_ONE, 6},
        {OF_ONE, 7}, {OF_ONE, 8}, {OF_ONE, 9}, {OF_NAME, 10}, {OF_ONE, 11}};

    public static void main(String[] args) {
        deepForEachThatReadsAlone();
        deepForEachThatIsJoined();
        deepInAll();
        spentForEachThatReadsAlone();
        spentForEachThatIsJoined();
        spentInAll();
        deepAheadOfSpent();
        faultsEndAllReading();
        emptyOnEdges();
        zeroOnEdges();
        lackOnEdges();
        faultsLeaveWhatWasThen();
        countsOfFaults();
        Due.end();
    }

    /** A reader in which 'inner' stands in the given way; what stands beside it does not fail or fault. */
    private static int joined(ReaderYard y, int way, int sort, int inner) {
        switch (way) {
            case THEN_A: return y.reader(sort, inner, y.reader(Yards.BAR, 0, 0));
            case THEN_B: return y.reader(sort, y.reader(Yards.BAR, 0, 0), inner);
            case OR_A: return y.reader(sort, inner, y.reader(Yards.BAR, 0, 0));
            case OR_B: return y.reader(sort, Yards.failing(y), inner);
            case OF_NAME:
                y.name(8, inner);
                return y.reader(sort, 8, 0);
            default: return y.reader(sort, inner, 0);
        }
    }

    /**
     * A reader that, on a text of 48 signs, has 'inner' begin as number 148 of those under way: at
     * the text's end, in readers that were three in one another for each sign.
     */
    private static int down(ReaderYard y, int inner) {
        int named = y.reader(Yards.NAME, 0, 0);
        int atEnd = y.reader(Yards.THEN, 1, y.reader(Yards.MAYBE, inner, 0));
        int further = y.reader(Yards.THEN, 0, named);
        int either = y.reader(Yards.OR, atEnd, further);
        y.name(0, either);
        return either;
    }

    private static void deepForEachThatReadsAlone() {
        for (int[] sort : ALONE) {
            String which = "sort " + sort[0];
            ReaderYard y = Yards.ofLength(48);
            int alone = y.reader(sort[0], sort[1], 127);
            int in148 = down(y, alone);
            int in150 = Yards.wrapped(y, in148, 2);
            int answer = y.read(in150, 0);
            int faultAlone = sort[0] == 10 ? EMPTY : sort[0] == 15 ? LACK : 48;
            Due.is(which + " as number 150", answer, faultAlone);
            Due.is(which + " as number 150: how deep", y.count(5), 150);
            Due.is(which + " as number 150 began", y.began(alone), 1);
            Due.is(which + " as number 151", y.read(Yards.wrapped(y, in150, 1), 0), DEEP);
            Due.is(which + " as number 151: how deep", y.count(5), 150);
            Due.is(which + " as number 151 did not begin", y.began(alone), 1);
            Due.is(which + " as number 151: the latest fault", y.count(8), 4);
        }
    }

    private static void deepForEachThatIsJoined() {
        for (int[] join : JOINED) {
            String which = "DEEP through sort " + join[1] + ", way " + join[0];
            ReaderYard y = Yards.ofLength(48);
            int in148 = down(y, y.reader(Yards.LAY, 1, 0));
            int in149 = Yards.wrapped(y, in148, 1);
            int in150 = Yards.wrapped(y, in149, 1);
            Due.holds(which + ": not yet", y.read(joined(y, join[0], join[1], in149), 0) >= Yards.NONE);
            Due.is(which + ": not yet, how deep", y.count(5), 150);
            Due.is(which + ": no fault", y.count(7), 0);
            Due.is(which, y.read(joined(y, join[0], join[1], in150), 0), DEEP);
            Due.is(which + ": how deep", y.count(5), 150);
        }
    }

    private static void deepInAll() {
        ReaderYard y = Yards.ofLength(49);
        int lay = y.reader(Yards.LAY, 1, 0);
        int in150From1 = Yards.wrapped(y, down(y, lay), 2);
        Due.is("49 signs are too deep", y.all(in150From1), DEEP);
        Due.is("48 signs are not", y.read(in150From1, 1), 49);
        y.clear();
        Yards.lengthen(y, 48);
        Due.is("48 signs in all()", y.all(in150From1), 1);
        Due.is("150 deep in all()", y.count(5), 150);
    }

    private static void spentForEachThatReadsAlone() {
        for (int[] sort : ALONE) {
            String which = "sort " + sort[0];
            ReaderYard y = Yards.of("a");
            int alone = y.reader(sort[0], sort[1], 127);
            int spends2998 = y.reader(Yards.AHEAD, Yards.spender(y, 2997), 0);
            int spends2999 = Yards.wrapped(y, spends2998, 1);
            y.read(y.reader(Yards.THEN, spends2998, alone), 0);
            Due.is(which + " as step 3000 began", y.began(alone), 1);
            Due.is(which + " as step 3000: steps", y.count(4), 3000);
            Due.holds(which + " as step 3000: not SPENT", y.count(8) != 5);
            Due.is(which + " as step 3001", y.read(y.reader(Yards.THEN, spends2999, alone), 0), SPENT);
            Due.is(which + " as step 3001 did not begin", y.began(alone), 1);
            Due.is(which + " as step 3001: steps", y.count(4), 3000);
            Due.is(which + " as step 3001: steps ever", y.count(6), 6000);
            Due.is(which + " as step 3001: the latest fault", y.count(8), 5);
        }
    }

    private static void spentForEachThatIsJoined() {
        for (int[] join : JOINED) {
            String which = "SPENT through sort " + join[1] + ", way " + join[0];
            ReaderYard y = Yards.of("a");
            int any = y.reader(Yards.SIGN, 'a', 0);
            int joined = joined(y, join[0], join[1], any);
            y.read(joined, 0);
            int cost = y.count(4);
            int spends = Yards.spender(y, 2999 - cost);
            Due.holds(which + ": not yet", y.read(y.reader(Yards.THEN, spends, joined), 0) >= Yards.NONE);
            Due.is(which + ": not yet, steps", y.count(4), 3000);
            Due.is(which + ": no fault", y.count(7), 0);
            int spendsMore = Yards.wrapped(y, spends, 1);
            Due.is(which, y.read(y.reader(Yards.THEN, spendsMore, joined), 0), SPENT);
            Due.is(which + ": steps", y.count(4), 3000);
        }
    }

    /** STEPS go on from one to the next: the last one of the second is the 3000th, or one too many. */
    private static void spentInAll() {
        ReaderYard y = Yards.of("a");
        int in3000 = y.reader(Yards.THEN, Yards.spender(y, 1498), 0);
        Due.is("3000 steps in all()", y.all(in3000), 1);
        Due.is("3000 steps are no fault", y.count(4) + y.count(7), 3000);
        Due.is("the second is taken back", y.count(2), 749);
        ReaderYard z = Yards.of("a");
        int failing = Yards.failing(z);
        int orFailing = z.reader(Yards.OR, 0, failing);
        int in3001 = z.reader(Yards.THEN, Yards.spender(z, 1497), orFailing);
        Due.is("3001 steps in all()", z.all(in3001), SPENT);
        Due.is("3001 steps: 3000 were made", z.count(4), 3000);
        Due.is("3001 steps: the last did not begin", z.began(failing), 0);
        Due.is("3001 steps: numbers of both", z.count(2), 2 * 749);
        Due.is("each read() has its own 3000", z.read(in3001, 0), 1);
        Due.is("its steps", z.count(4), 1500);
    }

    private static void deepAheadOfSpent() {
        ReaderYard y = new ReaderYard();
        int self = y.reader(Yards.NAME, 0, 0);
        y.name(0, self);
        int spends2850 = Yards.spender(y, 2850);
        Due.is("both are due: DEEP", y.read(y.reader(Yards.THEN, spends2850, self), 0), DEEP);
        Due.is("both are due: steps", y.count(4), 3000);
        Due.is("both are due: how deep", y.count(5), 150);
        int spends2851 = Yards.wrapped(y, spends2850, 1);
        Due.is("SPENT is due one ahead", y.read(y.reader(Yards.THEN, spends2851, self), 0), SPENT);
        Due.is("SPENT: how deep", y.count(5), 149);
        int spends2849 = Yards.spender(y, 2849);
        Due.is("DEEP is due one ahead", y.read(y.reader(Yards.THEN, spends2849, self), 0), DEEP);
        Due.is("DEEP: steps", y.count(4), 2999);
    }

    /** Behind a fault nothing begins, whatever it stands in. */
    private static void faultsEndAllReading() {
        for (int[] join : JOINED) {
            String which = "a fault in sort " + join[1] + ", way " + join[0];
            ReaderYard y = Yards.of("aa");
            int empty = y.reader(Yards.NAME, 3, 0);
            int whole = joined(y, join[0], join[1], empty);
            int behind = y.reader(Yards.OR, y.reader(Yards.THEN, whole, 0), 0);
            Due.is(which, y.read(behind, 0), EMPTY);
            Due.is(which + ": nothing begins behind it", y.began(0), 0);
            Due.is(which + " in all()", y.all(behind), EMPTY);
            Due.is(which + " in all(): nothing begins behind it", y.began(0), 0);
            Due.is(which + ": it began once in each", y.began(empty), 2);
            Due.is(which + ": counted once in each", y.count(7), 2);
        }
    }

    private static void emptyOnEdges() {
        for (int k = 0; k <= 9; k++) {
            ReaderYard y = Yards.of("a");
            int named = y.reader(Yards.NAME, k, 0);
            for (int other = 0; other <= 9; other++) {
                y.name(other, other == k ? Yards.NONE : 0);
            }
            Due.is("NAME " + k + " alone is none", y.read(named, 0), EMPTY);
            y.name(k, 0);
            Due.is("NAME " + k + " is READER 0", y.read(named, 0), 1);
        }
    }

    private static void zeroOnEdges() {
        ReaderYard y = Yards.of("18446744073709551616");
        int divide = y.reader(Yards.ACT, 3, 0);
        int[] lay = new int[4];
        for (int i = 0; i <= 2; i++) {
            lay[i] = y.reader(Yards.LAY, i - 1, 0);
        }
        Due.is("x 0, y 1", y.read(Yards.chain(y, lay[2], lay[1], divide), 0), ZERO);
        Due.is("x 0, y 0", y.read(Yards.chain(y, lay[1], lay[1], divide), 0), ZERO);
        Due.is("x 1, y 0", y.read(Yards.chain(y, lay[1], lay[2], divide), 0), 0);
        Due.is("x -1, y 0", y.read(Yards.chain(y, lay[1], lay[0], divide), 0), 0);
        int figures = y.reader(Yards.MANY, y.reader(Yards.FIGURE, 0, 0), 0);
        Due.is("x wrapped to 0", y.read(Yards.chain(y, lay[2], lay[1], figures, divide), 0), ZERO);
        for (int deed = 0; deed <= 2; deed++) {
            int act = y.reader(Yards.ACT, deed, 0);
            Due.is("x 0 for ACT " + deed, y.read(Yards.chain(y, lay[2], lay[1], act), 0), 0);
        }
        Due.is("three had it", y.count(7), 3);
    }

    private static void lackOnEdges() {
        for (int deed = 0; deed <= 3; deed++) {
            ReaderYard y = new ReaderYard();
            int lay = y.reader(Yards.LAY, 6, 0);
            int act = y.reader(Yards.ACT, deed, 0);
            Due.is("ACT " + deed + " finds none", y.read(act, 0), LACK);
            Due.is("ACT " + deed + " finds one", y.read(Yards.chain(y, lay, act), 0), LACK);
            Due.is("ACT " + deed + " finds two", y.read(Yards.chain(y, lay, lay, act), 0), 0);
            Due.is("ACT " + deed + " finds two, the next one", y.read(Yards.chain(y, lay, lay, act, act), 0), LACK);
            Due.is("ACT " + deed + " finds three, then two", y.read(Yards.chain(y, lay, lay, lay, act, act), 0), 0);
            int takenBack = y.reader(Yards.AHEAD, lay, 0);
            Due.is("ACT " + deed + ", one is taken back", y.read(Yards.chain(y, lay, takenBack, act), 0), LACK);
        }
    }

    private static void faultsLeaveWhatWasThen() {
        ReaderYard y = Yards.of("a");
        int lay = y.reader(Yards.LAY, 6, 0);
        int marked = y.reader(Yards.MARK, lay, 2);
        int empty = y.reader(Yards.NAME, 0, 0);
        int failing = Yards.failing(y);
        int failed = y.reader(Yards.MAYBE, Yards.chain(y, marked, failing), 0);
        int inNot = y.reader(Yards.NOT, Yards.chain(y, marked, failed, empty), 0);
        Due.is("a fault in NOT in OR", y.read(y.reader(Yards.OR, y.reader(Yards.THEN, marked, inNot), 0), 0), EMPTY);
        Due.is("THE PILE is what it was then", y.count(2), 2);
        Due.is("MARKS are what they were then", y.count(3), 2);
        Due.is("a fault in the second of all()", y.all(y.reader(Yards.THEN, marked, y.reader(Yards.OR, 0, empty))), EMPTY);
        Due.is("THE PILE of both", y.count(2), 2);
        Due.is("MARKS of both", y.count(3), 2);
        Due.is("the second MARK", y.mark(1, 1), 1);
    }

    private static void countsOfFaults() {
        ReaderYard y = Yards.of("1");
        int lay0 = y.reader(Yards.LAY, 0, 0);
        int self = y.reader(Yards.NAME, 1, 0);
        y.name(1, self);
        int[] faulty = {y.reader(Yards.NAME, 0, 0), Yards.chain(y, lay0, lay0, y.reader(Yards.ACT, 3, 0)),
            y.reader(Yards.FIGURE, 0, 0), self, Yards.spender(y, 3001)};
        Due.is("no fault yet", y.count(7) + y.count(8), 0);
        for (int fault = 1; fault <= 5; fault++) {
            int reader = faulty[fault - 1];
            Due.is("fault " + fault, y.read(reader, 0), -10 - fault);
            Due.is("fault " + fault + " is the latest", y.count(8), fault);
            Due.is("fault " + fault + " in all()", y.all(reader), -10 - fault);
            Due.is("read() without a fault", y.read(0, 0), 1);
            Due.is("failing is no fault", y.read(0, 1), Yards.NONE);
            Due.is("BAD is no fault", y.read(99, 0), Yards.BAD);
            Due.is("faults, two each", y.count(7), 2 * fault);
            Due.is("the latest stays fault " + fault, y.count(8), fault);
        }
    }
}

/**
 * Promise by promise, the values that are just inside (those just outside are in RefusedTest):
 * the smallest and the largest, an empty and a full yard.
 */
public final class EdgesTest {
    public static void main(String[] args) {
        eachByteAsSign();
        eachLengthOfText();
        textFillsToItsEnd();
        clearOfNothingAndOfAll();
        clearLeavesTheRest();
        readersOfTheFirstAndTheLatest();
        readersThatTakeAnyNumber();
        fiftyReaders();
        firstAndLastName();
        placesOfRead();
        readBeginsEmpty();
        allBeginsEmpty();
        allOnEdges();
        allTakesTheLastBack();
        pileEdges();
        markEdges();
        mostMarks();
        mostNumbers();
        beganEdges();
        oneYardBesideAnother();
        callsTillThe512th();
        Due.end();
    }

    private static void eachByteAsSign() {
        for (int sign = 0; sign <= 127; sign++) {
            ReaderYard y = new ReaderYard();
            y.text(1, sign);
            y.text(1, sign + 128);
            y.text(8, (long) sign << 56);
            y.text(8, (long) (sign + 128) << 56);
            int same = y.reader(Yards.SIGN, sign, 0);
            Due.is("2 byte " + sign, y.read(same, 0), 1);
            Due.is("2 byte " + (sign + 128) + ": its lowest seven bits", y.read(same, 1), 2);
            Due.is("2 highest byte " + sign, y.read(same, 9), 10);
            Due.is("2 highest byte " + (sign + 128), y.read(same, 17), 18);
            Due.is("2 byte below the highest", y.read(y.reader(Yards.SIGN, 0, 0), 16), 17);
        }
    }

    private static void eachLengthOfText() {
        for (int n = 1; n <= 8; n++) {
            ReaderYard y = new ReaderYard();
            Due.is("2 text " + n, y.text(n, 0x0807_0605_0403_0201L), n);
            for (int i = 0; i < n; i++) {
                Due.is("2 the lowest first", y.read(y.reader(Yards.SIGN, i + 1, 0), i), i + 1);
            }
            Due.is("2 no sign more", y.read(1, n), n);
        }
    }

    private static void textFillsToItsEnd() {
        for (int n = 1; n <= 8; n++) {
            ReaderYard y = Yards.ofLength(200 - n);
            Due.is("2 the last " + n, y.text(n, 0x7a7a_7a7a_7a7a_7a7aL), 200);
            Due.is("2 the last sign is there", y.read(y.reader(Yards.SIGN, 'z', 0), 199), 200);
            Due.is("2 count", y.count(0), 200);
            Due.is("2 then it is full", y.text(1, 0), Yards.FULL);
        }
    }

    private static void clearOfNothingAndOfAll() {
        ReaderYard y = new ReaderYard();
        Due.is("3 nothing", y.clear(), 0);
        Yards.lengthen(y, 200);
        Due.is("3 all", y.clear(), 200);
        Due.is("3 empty", y.count(0), 0);
        Due.is("3 again", y.clear(), 0);
        Due.is("3 its end is place 0", y.read(1, 0), 0);
        Due.is("3 ANY finds no old sign", y.read(0, 0), Yards.NONE);
        Due.is("3 SIGN finds no old sign", y.read(y.reader(Yards.SIGN, 'a', 0), 0), Yards.NONE);
        Due.is("3 no place 1", y.read(0, 1), Yards.BAD);
        Due.is("3 all finds none", y.all(0), 0);
        Due.is("3 one", y.text(1, 'z'), 1);
        Due.is("3 behind it no old sign", y.read(0, 1), Yards.NONE);
        Yards.lengthen(y, 199);
        Due.is("3 room for 200 again", y.count(0), 200);
    }

    private static void clearLeavesTheRest() {
        ReaderYard y = Yards.of("ab");
        int named = y.reader(Yards.NAME, 4, 0);
        int laid = y.reader(Yards.THEN, y.reader(Yards.LAY, 6, 0), y.reader(Yards.MARK, 0, 1));
        y.read(named, 0);
        y.name(4, laid);
        y.read(named, 1);
        String before = Yards.state(y);
        y.clear();
        Due.same("3 the rest", Yards.state(y).replace("counts 0", "counts 2"), before);
        Due.is("3 the name", y.name(4, Yards.NONE), 1);
    }

    private static void readersOfTheFirstAndTheLatest() {
        int[] sorts = {4, 5, 6, 7, 8, 9, 11};
        for (int sort : sorts) {
            ReaderYard y = new ReaderYard();
            Due.is("4 sort " + sort + " of 0", y.reader(sort, 0, 0), 2);
            Due.is("4 sort " + sort + " of the latest", y.reader(sort, 2, 0), 3);
            Due.is("4 sort " + sort + " of b the latest", y.reader(sort, 0, 3), 4);
            Due.is("4 sort " + sort + " of the next", y.reader(sort, 5, 0), Yards.BAD);
        }
    }

    private static void readersThatTakeAnyNumber() {
        int[] numbers = {Integer.MIN_VALUE, -2, -1, 50, 128, Integer.MAX_VALUE};
        int[] anyFirst = {0, 1, 2, 3, 12, 13, 14};
        int[] anySecond = {0, 1, 2, 3, 6, 7, 8, 9, 10, 11, 12, 13, 14, 15};
        for (int number : numbers) {
            ReaderYard y = new ReaderYard();
            int made = 2;
            for (int sort : anyFirst) {
                Due.is("4 sort " + sort + " of a " + number, y.reader(sort, number, 0), made++);
            }
            for (int sort : anySecond) {
                Due.is("4 sort " + sort + " of b " + number, y.reader(sort, 0, number), made++);
            }
        }
    }

    private static void fiftyReaders() {
        ReaderYard y = Yards.of("abc");
        for (int number = 2; number < 49; number++) {
            Due.is("4 reader", y.reader(Yards.SIGN, number, 0), number);
        }
        Due.is("4 the 50th", y.reader(Yards.MARK, 0, 8), 49);
        Due.is("4 count", y.count(1), 50);
        Due.is("4 no 51st", y.reader(Yards.ANY, 0, 0), Yards.FULL);
        Due.is("6 the 50th reads", y.read(49, 2), 3);
        Due.is("7 the 50th reads all", y.all(49), 3);
        Due.is("11 the 50th began", y.began(49), 5);
        Due.is("5 the 50th has a name", y.name(9, 49), 0);
        Due.is("6 no 51st", y.read(50, 0), Yards.BAD);
        Due.is("7 no 51st", y.all(50), Yards.BAD);
        Due.is("11 no 51st", y.began(50), Yards.BAD);
        Due.is("5 no 51st", y.name(9, 50), Yards.BAD);
    }

    private static void firstAndLastName() {
        ReaderYard y = Yards.of("ab");
        int[] named = new int[10];
        for (int k = 0; k <= 9; k++) {
            named[k] = y.reader(Yards.NAME, k, 0);
            Due.is("4 NAME " + k, named[k], 2 + k);
        }
        Due.is("5 NAME 0 becomes the first", y.name(0, 0), 0);
        Due.is("5 NAME 9 becomes the latest", y.name(9, named[9]), 0);
        Due.is("5 NAME 9 was one", y.name(9, 1), 1);
        Due.is("5 NAME 0 reads", y.read(named[0], 1), 2);
        Due.is("5 NAME 9 reads", y.read(named[9], 2), 2);
        for (int k = 1; k <= 8; k++) {
            Due.is("5 NAME " + k + " is none", y.read(named[k], 0), -11);
        }
        Due.is("5 NAME 0 becomes none", y.name(0, Yards.NONE), 1);
        Due.is("5 NAME 0 was none", y.name(0, Yards.NONE), 0);
        Due.is("5 NAME 0 is none", y.read(named[0], 0), -11);
        Due.is("5 NAME 0 becomes one again", y.name(0, 0), 0);
        Due.is("5 NAME 0 reads again", y.read(named[0], 0), 1);
    }

    private static void placesOfRead() {
        int[] lengths = {0, 1, 7, 199, 200};
        for (int length : lengths) {
            ReaderYard y = Yards.ofLength(length);
            Due.is("6 END from the end " + length, y.read(1, length), length);
            Due.is("6 ANY from the end " + length, y.read(0, length), Yards.NONE);
            Due.is("6 END behind the end " + length, y.read(1, length + 1), Yards.BAD);
            Due.is("6 ANY from -1, length " + length, y.read(0, -1), Yards.BAD);
            if (length > 0) {
                Due.is("6 ANY from 0, length " + length, y.read(0, 0), 1);
                Due.is("6 ANY from the last, length " + length, y.read(0, length - 1), length);
                Due.is("6 END from the last, length " + length, y.read(1, length - 1), Yards.NONE);
            }
        }
    }

    private static void readBeginsEmpty() {
        ReaderYard y = Yards.of("1");
        int laid = y.reader(Yards.MARK, y.reader(Yards.LAY, 7, 0), 1);
        int figure = y.reader(Yards.FIGURE, 0, 0);
        int faulty = y.reader(Yards.THEN, laid, y.reader(Yards.NAME, 0, 0));
        int[] leaving = {laid, faulty};
        for (int reader : leaving) {
            y.read(reader, 0);
            Due.is("6 something is left", y.count(2) + y.count(3), 2);
            Due.is("6 FIGURE finds nothing of it", y.read(figure, 0), -13);
            Due.is("6 nothing is left", y.count(2) + y.count(3), 0);
            y.read(reader, 0);
            Due.is("6 failing finds nothing of it", y.read(figure, 1), Yards.NONE);
            Due.is("6 nothing is left behind failing", y.count(2) + y.count(3), 0);
            Due.is("6 its steps alone", y.count(4), 1);
            Due.is("6 its depth alone", y.count(5), 1);
        }
    }

    private static void allBeginsEmpty() {
        ReaderYard y = Yards.of("1");
        int laid = y.reader(Yards.MARK, y.reader(Yards.LAY, 7, 0), 1);
        int figure = y.reader(Yards.FIGURE, 0, 0);
        y.read(laid, 0);
        Due.is("7 FIGURE finds nothing", y.all(figure), -13);
        y.read(laid, 0);
        Due.is("7 END comes no further", y.all(1), 0);
        Due.is("7 nothing is left", y.count(2) + y.count(3), 0);
        y.read(laid, 0);
        Due.is("7 LAY comes no further", y.all(laid), 0);
        Due.is("7 nothing is left of either", y.count(2) + y.count(3), 0);
        Due.is("7 its steps alone", y.count(4), 2);
        Due.is("7 its depth alone", y.count(5), 2);
        Due.is("7 ANY comes further", y.all(0), 1);
        Due.is("7 its depth", y.count(5), 1);
    }

    private static void allOnEdges() {
        ReaderYard y = new ReaderYard();
        Due.is("7 ANY on nothing", y.all(0), 0);
        Due.is("7 one step", y.count(4), 1);
        Due.is("7 END on nothing", y.all(1), 0);
        y.text(1, 5);
        Due.is("7 ANY on one", y.all(0), 1);
        Due.is("7 two steps", y.count(4), 2);
        Yards.lengthen(y, 199);
        Due.is("7 ANY on 200", y.all(0), 200);
        Due.is("7 201 steps", y.count(4), 201);
        int two = y.reader(Yards.THEN, 0, 0);
        Due.is("7 two at a time", y.all(two), 100);
        y.clear();
        Yards.lengthen(y, 3);
        Due.is("7 one is left over", y.all(two), 1);
        int many = y.reader(Yards.MANY, 0, 0);
        Due.is("7 all at once", y.all(many), 1);
        Due.is("7 once more at the end", y.count(4), 7);
        Due.is("7 a fault in the first", y.all(y.reader(Yards.NAME, 0, 0)), -11);
        Due.is("7 a fault at the end", y.all(y.reader(Yards.OR, 0, y.reader(Yards.NAME, 0, 0))), -11);
        Due.is("7 the faults", y.count(7), 2);
    }

    /** The second, which comes no further or fails, changed a number that the first laid. */
    private static void allTakesTheLastBack() {
        ReaderYard y = Yards.of("12");
        int lay = y.reader(Yards.LAY, 3, 0);
        int sum = y.reader(Yards.ACT, 0, 0);
        int one = y.reader(Yards.SIGN, '1', 0);
        int two = y.reader(Yards.SIGN, '2', 0);
        int first = Yards.chain(y, one, lay, lay);
        int failing = y.reader(Yards.OR, first, Yards.chain(y, sum, two, one));
        Due.is("7 the second fails", y.all(failing), 1);
        Due.is("7 its sum is taken back", y.count(2), 2);
        Due.is("7 the number is there", y.pile(0), 3);
        int staying = y.reader(Yards.OR, first, y.reader(Yards.MARK, sum, 0));
        Due.is("7 the second comes no further", y.all(staying), 1);
        Due.is("7 its sum is taken back, too", y.count(2), 2);
        Due.is("7 its mark is taken back", y.count(3), 0);
        int figure = y.reader(Yards.FIGURE, 0, 0);
        int going = y.reader(Yards.OR, first, figure);
        Due.is("7 the second comes further", y.all(going), 2);
        Due.is("7 THE PILE goes on", y.pile(0), 32);
        Due.is("7 two numbers", y.count(2), 2);
    }

    private static void pileEdges() {
        ReaderYard y = new ReaderYard();
        int lowest = y.reader(Yards.LAY, Integer.MIN_VALUE, 0);
        int highest = y.reader(Yards.LAY, Integer.MAX_VALUE, 0);
        int minus = y.reader(Yards.LAY, -1, 0);
        y.read(Yards.chain(y, lowest, highest, minus), 0);
        Due.is("8 LAY -1", y.pile(0), -1L);
        Due.is("8 LAY the highest", y.pile(1), 2147483647L);
        Due.is("8 LAY the lowest", y.pile(2), -2147483648L);
        Due.is("8 there is none", y.pile(3), 0);
        Due.is("8 none on top of the top", y.pile(-1), 0);
        Due.is("8 a read that is BAD leaves it", y.read(99, 0), Yards.BAD);
        Due.is("8 as it was", y.pile(0), -1L);
        y.read(lowest, 0);
        Due.is("8 an old number is none", y.pile(1), 0);
        y.read(0, 0);
        Due.is("8 none behind a failing one", y.pile(0), 0);
    }

    private static void markEdges() {
        ReaderYard y = Yards.ofLength(200);
        int lowest = y.reader(Yards.MARK, 1, Integer.MIN_VALUE);
        int highest = y.reader(Yards.MARK, y.reader(Yards.MANY, 0, 0), Integer.MAX_VALUE);
        Due.is("9 there is none", y.mark(0, 0), Yards.NONE);
        Due.is("9 from 0 to 200", y.read(Yards.chain(y, highest, lowest), 0), 200);
        Due.is("9 highest b", y.mark(0, 0), Integer.MAX_VALUE);
        Due.is("9 from 0", y.mark(0, 1), 0);
        Due.is("9 to 200", y.mark(0, 2), 200);
        Due.is("9 lowest b", y.mark(1, 0), Integer.MIN_VALUE);
        Due.is("9 from 200", y.mark(1, 1), 200);
        Due.is("9 it stayed at 200", y.mark(1, 2), 200);
        Due.is("9 no third", y.mark(2, 0), Yards.NONE);
        y.read(highest, 199);
        Due.is("9 from 199", y.mark(0, 1), 199);
        Due.is("9 an old mark is none", y.mark(1, 0), Yards.NONE);
        y.read(lowest, 0);
        Due.is("9 none behind a failing one", y.mark(0, 0), Yards.NONE);
        Due.is("9 BAD, where there is none", y.mark(0, 3), Yards.BAD);
    }

    /** Marks upon marks, so that nearly each of the 3000 steps makes one. */
    private static void mostMarks() {
        ReaderYard y = new ReaderYard();
        int[] doubled = new int[7];
        doubled[0] = y.reader(Yards.LAY, 1, 0);
        for (int b = 1; b <= 30; b++) {
            doubled[0] = y.reader(Yards.MARK, doubled[0], b);
        }
        for (int i = 1; i <= 6; i++) {
            doubled[i] = y.reader(Yards.THEN, doubled[i - 1], doubled[i - 1]);
        }
        int times = 4 + 8 + 16 + 64;
        Due.is("10 read", y.read(Yards.chain(y, doubled[2], doubled[3], doubled[4], doubled[6]), 0), 0);
        Due.is("10 steps", y.count(4), times * 32 - 1);
        Due.is("10 marks", y.count(3), times * 30);
        Due.is("9 the last one", y.mark(times * 30 - 1, 0), 30);
        Due.is("9 the first of the last", y.mark(times * 30 - 30, 0), 1);
        Due.is("9 none behind it", y.mark(times * 30, 0), Yards.NONE);
        Due.is("10 numbers", y.count(2), times);
    }

    /** As many numbers as there can be, and as many changes of one number as steps allow. */
    private static void mostNumbers() {
        ReaderYard y = new ReaderYard();
        int most = Yards.spender(y, 2999);
        y.read(most, 0);
        Due.is("10 steps", y.count(4), 2999);
        Due.is("10 numbers", y.count(2), 1500);
        Due.is("8 the lowest", y.pile(1499), 1);
        Due.is("8 none below it", y.pile(1500), 0);
        ReaderYard figures = new ReaderYard();
        for (int i = 0; i < 25; i++) {
            figures.text(8, 0x3030_3030_3030_3031L);
        }
        int many = figures.reader(Yards.MANY, figures.reader(Yards.FIGURE, 0, 0), 0);
        int ahead = figures.reader(Yards.AHEAD, many, 0);
        int lay = figures.reader(Yards.LAY, 4, 0);
        int again = Yards.chain(figures, lay, ahead, ahead, ahead, ahead, ahead, ahead, ahead, ahead,
                ahead, ahead, ahead, ahead, ahead, ahead);
        Due.is("8 2800 FIGURES ahead", figures.read(again, 0), 0);
        Due.is("8 all of them are taken back", figures.pile(0), 4);
        Due.is("10 steps of FIGURES", figures.count(4), 15 + 15 + 14 * 202 - 1);
        int behind = figures.reader(Yards.THEN, again, figures.reader(Yards.FIGURE, 0, 0));
        Due.is("8 one FIGURE behind them", figures.read(behind, 0), 1);
        Due.is("8 it changes what was laid", figures.pile(0), 41);
    }

    private static void beganEdges() {
        ReaderYard y = Yards.of("a");
        Due.is("11 the first, not yet", y.began(0), 0);
        Due.is("11 the latest, not yet", y.began(1), 0);
        Due.is("11 the next", y.began(2), Yards.BAD);
        int then = y.reader(Yards.THEN, 0, 0);
        Due.is("11 a new one", y.began(then), 0);
        y.read(then, 0);
        Due.is("11 one that fails began", y.began(then), 1);
        Due.is("11 twice in one call", y.began(0), 2);
        y.all(0);
        Due.is("11 over calls", y.began(0), 4);
        y.clear();
        Due.is("11 behind clear", y.began(0), 4);
        Due.is("11 steps ever", y.count(6), 5);
    }

    private static void oneYardBesideAnother() {
        ReaderYard one = Yards.of("a");
        ReaderYard other = new ReaderYard();
        String before = Yards.state(other);
        int laid = one.reader(Yards.MARK, one.reader(Yards.LAY, 1, 0), 2);
        one.name(0, laid);
        one.read(laid, 0);
        Due.same("1 another yard", Yards.state(other), before);
        Due.is("1 its name", other.name(0, Yards.NONE), 0);
    }

    /** 512 calls, nearly all of them as dear as a call can be. */
    private static void callsTillThe512th() {
        ReaderYard y = new ReaderYard();
        int dear = Yards.spender(y, 3001);
        int made = y.count(1) - 2 + 1;
        int reads = 512 - made - 6;
        for (int i = 0; i < reads; i++) {
            Due.is("dear call " + i, i % 2 == 0 ? y.read(dear, 0) : y.all(dear), -15);
        }
        Due.is("6 calls ahead of the last", y.count(6), 3000 * reads);
        Due.is("5 calls ahead of the last", y.count(7), reads);
        Due.is("4 calls ahead of the last", y.began(dear), reads);
        Due.is("3 calls ahead of the last", y.text(8, 0), 8);
        Due.is("2 calls ahead of the last", y.all(0), 8);
        Due.is("the 512th call", y.count(6), 3000 * reads + 9);
    }
}

/** The examples of README.md, so that it does not tell what the class no longer does. */
public final class ReadmeTest {
    public static void main(String[] args) {
        number();
        sumWithBrackets();
        Due.end();
    }

    private static void number() {
        ReaderYard yard = new ReaderYard();
        Due.is("text", yard.text(2, '4' | '2' << 8), 2);
        int figures = yard.reader(6, yard.reader(14, 0, 0), 0);
        int number = yard.reader(4, yard.reader(13, 0, 0), figures);
        Due.is("read", yard.read(number, 0), 2);
        Due.is("pile", yard.pile(0), 42);
    }

    private static void sumWithBrackets() {
        ReaderYard yard = new ReaderYard();
        Due.is("text", yard.text(7, 0x29_33_2B_32_28_2B_31L), 7);
        int figure = yard.reader(4, yard.reader(13, 0, 0), yard.reader(14, 0, 0));
        int inner = yard.reader(4, yard.reader(10, 0, 0), yard.reader(0, ')', 0));
        int brackets = yard.reader(4, yard.reader(0, '(', 0), inner);
        int item = yard.reader(5, figure, brackets);
        int added = yard.reader(4, item, yard.reader(15, 0, 0));
        int more = yard.reader(6, yard.reader(4, yard.reader(0, '+', 0), added), 0);
        int sum = yard.reader(11, yard.reader(4, item, more), 5);
        Due.is("read before the name is told", yard.read(sum, 0), -11);
        Due.is("name", yard.name(0, sum), 0);
        Due.is("read", yard.read(sum, 0), 7);
        Due.is("pile", yard.pile(0), 6);
        Due.is("mark 0", yard.mark(0, 1), 3);
        Due.is("mark 1", yard.mark(1, 2), 7);
    }
}

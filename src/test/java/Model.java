import java.util.ArrayList;
import java.util.List;

/**
 * The document in its plainest form, with a copy of the pile and the marks kept for each reader
 * that begins. It shares no way of working with ReaderYard, so that the two can be compared.
 */
final class Model {
    private static final class Fault extends Exception {
        private static final long serialVersionUID = 1;
        final int number;

        Fault(int number) {
            super(null, null, false, false);
            this.number = number;
        }
    }

    /** An OR whose first reader is under way. */
    private static final class OpenOr {
        boolean barred;
    }

    private final List<Integer> text = new ArrayList<>();
    private final List<int[]> readers = new ArrayList<>();
    private final List<Integer> began = new ArrayList<>();
    private final Integer[] names = new Integer[10];
    private List<Long> pile = new ArrayList<>();
    private List<int[]> marks = new ArrayList<>();
    private List<OpenOr> openOrs = new ArrayList<>();
    private int steps, deep, deepest, stepsEver, faults, latestFault;

    Model() {
        reader(2, 0, 0);
        reader(3, 0, 0);
    }

    int text(int n, long w) {
        if (n < 1 || n > 8) {
            return -2;
        }
        if (text.size() + n > 200) {
            return -3;
        }
        long rest = w;
        for (int i = 0; i < n; i++) {
            text.add((int) (rest & 127));
            rest >>= 8;
        }
        return text.size();
    }

    int clear() {
        int had = text.size();
        text.clear();
        return had;
    }

    private boolean made(int reader) {
        return 0 <= reader && reader < readers.size();
    }

    int reader(int sort, int a, int b) {
        boolean aIsReader = sort >= 4 && sort <= 9 || sort == 11;
        boolean bIsReader = sort == 4 || sort == 5;
        if (sort < 0 || sort > 15 || aIsReader && !made(a) || bIsReader && !made(b)
                || sort == 10 && (a < 0 || a > 9) || sort == 15 && (a < 0 || a > 3)) {
            return -2;
        }
        if (readers.size() == 50) {
            return -3;
        }
        readers.add(new int[] {sort, a, b});
        began.add(0);
        return readers.size() - 1;
    }

    int name(int k, int reader) {
        if (k < 0 || k > 9 || reader != -1 && !made(reader)) {
            return -2;
        }
        int answer = names[k] == null ? 0 : 1;
        names[k] = reader == -1 ? null : (Integer) reader;
        return answer;
    }

    private void begin() {
        pile = new ArrayList<>();
        marks = new ArrayList<>();
        openOrs = new ArrayList<>();
        steps = 0;
        deep = 0;
        deepest = 0;
    }

    private int fault(Fault fault) {
        faults++;
        latestFault = fault.number;
        return -10 - fault.number;
    }

    int read(int reader, int place) {
        if (!made(reader) || place < 0 || place > text.size()) {
            return -2;
        }
        begin();
        try {
            return go(reader, place);
        } catch (Fault fault) {
            return fault(fault);
        }
    }

    int all(int reader) {
        if (!made(reader)) {
            return -2;
        }
        begin();
        int place = 0;
        int times = 0;
        try {
            while (true) {
                List<Long> pileThen = new ArrayList<>(pile);
                List<int[]> marksThen = new ArrayList<>(marks);
                int to = go(reader, place);
                if (to <= place) {
                    pile = pileThen;
                    marks = marksThen;
                    return times;
                }
                place = to;
                times++;
            }
        } catch (Fault fault) {
            return fault(fault);
        }
    }

    private int go(int reader, int place) throws Fault {
        if (deep == 150) {
            throw new Fault(4);
        }
        if (steps == 3000) {
            throw new Fault(5);
        }
        deep++;
        steps++;
        stepsEver++;
        deepest = Math.max(deep, deepest);
        began.set(reader, began.get(reader) + 1);
        List<Long> pileThen = new ArrayList<>(pile);
        List<int[]> marksThen = new ArrayList<>(marks);
        int[] made = readers.get(reader);
        int to = made[0] < 4 || made[0] > 12 ? small(made, place) : joined(made, place);
        boolean looksOnly = made[0] == 8 || made[0] == 9;
        if (to == -1 || looksOnly) {
            pile = pileThen;
            marks = marksThen;
        }
        deep--;
        return to;
    }

    private int sign(int place) {
        return place < text.size() ? text.get(place) : -1000;
    }

    private int small(int[] made, int place) throws Fault {
        int sign = sign(place);
        switch (made[0]) {
            case 0: return sign != -1000 && sign == made[1] ? place + 1 : -1;
            case 1: return sign != -1000 && made[1] <= sign && sign <= made[2] ? place + 1 : -1;
            case 2: return sign != -1000 ? place + 1 : -1;
            case 3: return sign == -1000 ? place : -1;
            case 13: pile.add(0, (long) made[1]); return place;
            case 14:
                if (sign < 48 || sign > 57) {
                    return -1;
                }
                if (pile.isEmpty()) {
                    throw new Fault(3);
                }
                pile.set(0, pile.get(0) * 10 + (sign - 48));
                return place + 1;
            default:
                reckon(made[1]);
                return place;
        }
    }

    private void reckon(int deed) throws Fault {
        if (pile.size() < 2) {
            throw new Fault(3);
        }
        if (deed == 3 && pile.get(0) == 0) {
            throw new Fault(2);
        }
        long x = pile.remove(0);
        long y = pile.remove(0);
        pile.add(0, deed == 0 ? y + x : deed == 1 ? y - x : deed == 2 ? y * x : y / x);
    }

    private int joined(int[] made, int place) throws Fault {
        int a = made[1];
        int to;
        switch (made[0]) {
            case 4:
                to = go(a, place);
                return to == -1 ? -1 : go(made[2], to);
            case 5: return or(a, made[2], place);
            case 6: return many(a, place);
            case 7:
                to = go(a, place);
                return to == -1 ? place : to;
            case 8: return go(a, place) == -1 ? place : -1;
            case 9: return go(a, place) == -1 ? -1 : place;
            case 10:
                if (names[a] == null) {
                    throw new Fault(1);
                }
                return go(names[a], place);
            case 11:
                to = go(a, place);
                if (to != -1) {
                    marks.add(new int[] {made[2], place, to});
                }
                return to;
            default:
                if (!openOrs.isEmpty()) {
                    openOrs.get(openOrs.size() - 1).barred = true;
                }
                return place;
        }
    }

    private int or(int a, int b, int place) throws Fault {
        OpenOr mine = new OpenOr();
        openOrs.add(mine);
        int to = go(a, place);
        openOrs.remove(openOrs.size() - 1);
        return to == -1 && !mine.barred ? go(b, place) : to;
    }

    private int many(int a, int place) throws Fault {
        int at = place;
        while (true) {
            List<Long> pileThen = new ArrayList<>(pile);
            List<int[]> marksThen = new ArrayList<>(marks);
            int to = go(a, at);
            if (to <= at) {
                pile = pileThen;
                marks = marksThen;
                return at;
            }
            at = to;
        }
    }

    long pile(int i) {
        return i >= 0 && i < pile.size() ? pile.get(i) : 0;
    }

    int mark(int i, int what) {
        if (what < 0 || what > 2) {
            return -2;
        }
        return i >= 0 && i < marks.size() ? marks.get(i)[what] : -1;
    }

    int count(int what) {
        int[] counts = {text.size(), readers.size(), pile.size(), marks.size(), steps, deepest,
            stepsEver, faults, latestFault};
        return what >= 0 && what < counts.length ? counts[what] : -2;
    }

    int began(int reader) {
        return made(reader) ? began.get(reader) : -2;
    }
}

import java.util.Random;

/**
 * Runs of 512 calls, the same each time, on a yard and on the model beside it. What later calls
 * answer is free, so a run stops there; and since all of the state is more than the calls left can
 * ask for, a few questions follow most reads and many follow some.
 */
public final class ModelTest {
    private static final int RUNS = 6000;
    private static final int CALLS = 512;
    private static final int FEW_QUESTIONS = 5, MANY_QUESTIONS = 80;
    private static final int[] EXTREMES = {-1, -2, 50, 200, 201, Integer.MIN_VALUE, Integer.MAX_VALUE};
    /** Sorts that join others and that lay come more often, so that more than failing is seen. */
    private static final int[] SORTS = {0, 1, 1, 2, 3, 4, 4, 4, 4, 4, 4, 5, 5, 5, 6, 6, 7, 7, 8, 9, 10, 10,
        11, 11, 12, 13, 13, 14, 14, 15, 15};
    private static final int[] SIGNS = {'a', 'b', '0', '7', '9'};

    private final Random random;
    private final int run;
    private final ReaderYard yard = new ReaderYard();
    private final Model model = new Model();
    private int calls;
    private static final int[] ANSWERS = new int[20];

    private ModelTest(int run) {
        this.run = run;
        random = new Random(run);
    }

    public static void main(String[] args) {
        for (int run = 0; run < RUNS && Due.wrong() < 20; run++) {
            new ModelTest(run).go();
        }
        // A comparison that never meets a fault, or never comes further, would say little.
        for (int fault = 1; fault <= 5; fault++) {
            Due.holds("fault " + fault + " came often: " + ANSWERS[fault], ANSWERS[fault] >= 100);
        }
        Due.holds("readers came further often: " + ANSWERS[0], ANSWERS[0] >= 10000);
        Due.end();
    }

    private void go() {
        if (run % 2 == 0) {
            stock();
        }
        if (run % 5 == 0) {
            pileUp();
        }
        for (int deed = 0; calls < CALLS && Due.wrong() < 20; deed++) {
            int kind = random.nextInt(100);
            if (deed < 60 ? kind < 70 : kind < 5) {
                make();
            } else if (kind < 80) {
                read();
            } else if (kind < 94) {
                text();
            } else {
                name();
            }
        }
    }

    /** Each call of the yard comes by here once, so the calls are counted here. */
    private void say(String call, long got, long want) {
        calls++;
        Due.is("run " + run + ": " + call, got, want);
    }

    private int number(int bound) {
        return random.nextInt(60) == 0 ? EXTREMES[random.nextInt(EXTREMES.length)] : random.nextInt(bound);
    }

    /** Later readers more often, since those are put together of others. */
    private int readerNumber() {
        int many = model.count(1);
        return random.nextBoolean() ? number(many + 1) : Math.max(0, many - 1 - random.nextInt(8));
    }

    /** READER 6 lays three numbers, so that deeds find some. */
    private void stock() {
        add(13, 3, 0);
        add(13, random.nextInt(3) - 1, 0);
        add(4, 2, 3);
        add(15, random.nextInt(4), 0);
        add(4, 4, 3);
    }

    /** Doubles the latest reader often enough that what is put together of it may be SPENT. */
    private void pileUp() {
        for (int i = 7 + random.nextInt(4); i > 0; i--) {
            int latest = model.count(1) - 1;
            add(4, latest, latest);
        }
    }

    private void make() {
        int latest = model.count(1) - 1;
        int idiom = random.nextInt(12);
        if (idiom == 0) {
            add(4, latest, latest);
        } else if (idiom == 1) {
            add(9, latest, 0);
        } else if (idiom < 5 && run % 2 == 0) {
            add(4, 6, readerNumber());
        } else {
            makeAny();
        }
    }

    private void makeAny() {
        int sort = random.nextInt(80) == 0 ? number(17) : SORTS[random.nextInt(SORTS.length)];
        int a = readerNumber();
        int b = readerNumber();
        if (sort < 2) {
            a = SIGNS[random.nextInt(SIGNS.length)];
            b = SIGNS[random.nextInt(SIGNS.length)];
        } else if (sort == 10) {
            a = number(10);
        } else if (sort == 13) {
            a = random.nextInt(5) - 2;
        } else if (sort == 15) {
            a = number(4);
        }
        add(sort, a, b);
    }

    private void add(int sort, int a, int b) {
        say("reader(" + sort + ", " + a + ", " + b + ")", yard.reader(sort, a, b), model.reader(sort, a, b));
    }

    private void text() {
        if (random.nextInt(25) == 0) {
            say("clear()", yard.clear(), model.clear());
            return;
        }
        int n = random.nextInt(20) == 0 ? number(10) : 1 + random.nextInt(8);
        long w = random.nextLong();
        if (random.nextInt(8) != 0) {
            for (int i = 0; i < 8; i++) {
                w = w << 8 | SIGNS[random.nextInt(SIGNS.length)] | random.nextInt(2) << 7;
            }
        }
        say("text(" + n + ", " + w + ")", yard.text(n, w), model.text(n, w));
    }

    private void name() {
        int k = number(10);
        int reader = random.nextInt(8) == 0 ? -1 : readerNumber();
        say("name(" + k + ", " + reader + ")", yard.name(k, reader), model.name(k, reader));
    }

    private void read() {
        int reader = readerNumber();
        int place = random.nextBoolean() ? 0 : number(model.count(0) + 1);
        String call;
        int answer;
        if (random.nextInt(3) == 0) {
            call = "all(" + reader + ")";
            answer = model.all(reader);
            say(call, yard.all(reader), answer);
        } else {
            call = "read(" + reader + ", " + place + ")";
            answer = model.read(reader, place);
            say(call, yard.read(reader, place), answer);
        }
        ANSWERS[answer > place ? 0 : answer <= -11 ? -10 - answer : 19]++;
        int questions = random.nextInt(8) == 0 ? MANY_QUESTIONS : FEW_QUESTIONS;
        for (int i = 0; i < questions && calls < CALLS; i++) {
            ask(call);
        }
    }

    /** One question of the state behind the call, now and then just outside what there is. */
    private void ask(String call) {
        int what = random.nextInt(11) - 1;
        int i = random.nextInt(model.count(2) + 2) - 1;
        switch (random.nextInt(4)) {
            case 0:
                say(call + " count(" + what + ")", yard.count(what), model.count(what));
                break;
            case 1:
                say(call + " pile(" + i + ")", yard.pile(i), model.pile(i));
                break;
            case 2:
                i = random.nextInt(model.count(3) + 2) - 1;
                what = random.nextInt(16) == 0 ? number(5) - 1 : random.nextInt(3);
                say(call + " mark(" + i + ", " + what + ")", yard.mark(i, what), model.mark(i, what));
                break;
            default:
                i = random.nextInt(model.count(1) + 2) - 1;
                say(call + " began(" + i + ")", yard.began(i), model.began(i));
                break;
        }
    }
}

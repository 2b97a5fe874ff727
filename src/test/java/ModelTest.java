import java.util.Random;

/** Runs of at most 512 drawn calls, the same each time, with the answers of the model beside those of the class. */
public final class ModelTest {
    private static final int RUNS = 20000;
    /** The calls of one draw, and those of the last look, still are among the 512. */
    private static final int CALLS = 440;
    private static final int STATES = 10;
    private static final int[] ODD = {-1, Integer.MIN_VALUE, Integer.MAX_VALUE, 0, 1, 2048, 1000, 601, 600};

    private final Check check = new Check("ModelTest");
    private final Random random;
    private final int run;
    private final LogDesk x;
    private final Model model;
    /** One of ten runs or so draws checkpoints seldom, so that its log gets full. */
    private final boolean seldomMovesOn;
    private int calls;

    private ModelTest(int run) {
        this.run = run;
        random = new Random(run);
        int blocks = random.nextInt(3) == 0 ? random.nextInt(40) - 2 : 3 + random.nextInt(3);
        x = new LogDesk(blocks);
        model = new Model(blocks);
        seldomMovesOn = random.nextInt(10) == 0;
    }

    public static void main(String[] args) {
        for (int run = 0; run < RUNS; run++) {
            ModelTest test = new ModelTest(run);
            if (run % 2 == 0) {
                test.longPast();
            }
            test.calls();
            test.check.end();
        }
    }

    /** Large records first, so that the drawn calls meet a log that is full, or goes over the ring's end. */
    private void longPast() {
        int rounds = random.nextInt(40);
        int oneOf = 1 + random.nextInt(5);
        for (int i = 0; i < rounds; i++) {
            int v = random.nextInt();
            int n = 600 - random.nextInt(4);
            same("fill(" + v + ", " + n + ")", "" + x.fill(v, n), "" + model.fill(v, n));
            same("append(1)", Check.answer(() -> x.append(1)), Check.answer(() -> model.append(1)));
            if (oneOf < 5 && random.nextInt(oneOf) == 0) {
                int end = model.state(1);
                same("flush(" + end + ")", Check.answer(() -> x.flush(end)), Check.answer(() -> model.flush(end)));
                checkpointAt(end);
            }
        }
    }

    private void calls() {
        while (calls < CALLS && check.wrong() == 0) {
            switch (random.nextInt(16)) {
                case 0 -> put();
                case 1, 2 -> fill();
                case 3, 4, 5 -> append();
                case 6 -> commit();
                case 7, 8 -> flush();
                case 9 -> told();
                case 10 -> pages();
                case 11 -> checkpoint();
                case 12, 13 -> read();
                case 14 -> seldom();
                default -> byteOf();
            }
            state(random.nextInt(STATES) - 1);
        }
        for (int what = -1; what < STATES - 1; what++) {
            state(what);
        }
        check.due("run " + run + ": calls <= 512", calls <= 512, true);
    }

    private void same(String call, String got, String want) {
        calls++;
        if (!got.equals(want)) {
            check.fail("run " + run + ": " + call + " answered " + got + ", due is " + want);
        }
    }

    private void state(int what) {
        same("state(" + what + ")", Check.answer(() -> x.state(what)), Check.answer(() -> model.state(what)));
    }

    private int oddOr(int usual) {
        return random.nextInt(20) == 0 ? ODD[random.nextInt(ODD.length)] : usual;
    }

    private void put() {
        long v = random.nextLong();
        int n = oddOr(random.nextInt(10));
        same("put(" + v + ", " + n + ")", "" + x.put(v, n), "" + model.put(v, n));
    }

    private void fill() {
        int v = random.nextInt();
        int n = oddOr(fillLength());
        same("fill(" + v + ", " + n + ")", "" + x.fill(v, n), "" + model.fill(v, n));
    }

    /** Often such that the record ends at a block's edge, or one or two places beside. */
    private int fillLength() {
        int toEdge = 500 - (model.state(1) + model.state(4) + 3) % 500;
        return random.nextInt(3) == 0 ? toEdge + random.nextInt(5) - 2 : random.nextInt(random.nextInt(600) + 1);
    }

    private void append() {
        int kind = oddOr(random.nextInt(16));
        same("append(" + kind + ")", Check.answer(() -> x.append(kind)), Check.answer(() -> model.append(kind)));
    }

    private void commit() {
        int s = oddOr(random.nextInt(7));
        same("commit(" + s + ")", Check.answer(() -> x.commit(s)), Check.answer(() -> model.commit(s)));
    }

    /** One of the places at which something changes, or one beside. */
    private int place() {
        int end = model.state(1);
        int flushed = model.state(2);
        int usual = switch (random.nextInt(5)) {
            case 0 -> end;
            case 1 -> flushed + random.nextInt(3) - 1;
            case 2 -> flushed / 500 * 500 + 500 * random.nextInt(3) + random.nextInt(3) - 1;
            case 3 -> model.state(0) + random.nextInt(end - model.state(0) + 2);
            default -> end - random.nextInt(700);
        };
        return oddOr(usual);
    }

    private void flush() {
        int place = place();
        same("flush(" + place + ")", Check.answer(() -> x.flush(place)), Check.answer(() -> model.flush(place)));
    }

    private void told() {
        same("told()", "" + x.told(), "" + model.told());
    }

    private void pages() {
        if (random.nextInt(10) == 0) {
            same("mark()", "" + x.mark(), "" + model.mark());
            return;
        }
        int page = oddOr(random.nextInt(2) == 0 ? random.nextInt(70) : random.nextInt(2060) - 5);
        same("touch(" + page + ")", "" + x.touch(page), "" + model.touch(page));
    }

    private void checkpoint() {
        if (seldomMovesOn && random.nextInt(20) != 0) {
            return;
        }
        int read = model.state(7);
        int usual = random.nextInt(3) != 0 && read >= 0 ? read : place();
        checkpointAt(random.nextInt(4) == 0 ? model.state(2) : usual);
    }

    private void checkpointAt(int place) {
        same("checkpoint(" + place + ")", Check.answer(() -> x.checkpoint(place)),
            Check.answer(() -> model.checkpoint(place)));
    }

    private void read() {
        int times = 1 + random.nextInt(3);
        for (int i = 0; i < times; i++) {
            same("next()", Check.answer(x::next), Check.answer(model::next));
            same("length()", "" + x.length(), "" + model.length());
            for (int at = 0; at < model.length(); at += 50 + random.nextInt(100)) {
                same("byteOf(" + at + ")", "" + x.byteOf(at), "" + model.byteOf(at));
            }
        }
    }

    private void byteOf() {
        int i = oddOr(random.nextInt(3) == 0 ? model.length() - random.nextInt(3) + 1 : random.nextInt(610) - 5);
        same("byteOf(" + i + ")", "" + x.byteOf(i), "" + model.byteOf(i));
        same("length()", "" + x.length(), "" + model.length());
    }

    private void seldom() {
        if (random.nextInt(3) == 0) {
            same("open()", "" + x.open(), "" + model.open());
            return;
        }
        int n = oddOr(random.nextInt(9));
        same("charge(" + n + ")", Check.answer(() -> { x.charge(n); return 0; }), Check.answer(() -> model.charge(n)));
    }
}

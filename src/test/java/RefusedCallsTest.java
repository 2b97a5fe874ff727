import java.util.LinkedHashMap;
import java.util.Map;
import java.util.function.Consumer;
import java.util.function.Supplier;
import java.util.function.ToIntFunction;

/**
 * "What throws something else, or answers false, changes nothing": each refused call is made on one of two
 * objects of the same past, and all that can be told of them must be the same behind it.
 */
public final class RefusedCallsTest {
    private static final String NO_ARGUMENT = "throws.IllegalArgumentException";
    private static final String NO_STATE = "throws.IllegalStateException";
    private static final String NO_ELEMENT = "throws.NoSuchElementException";
    private static final String FALSE = "0";
    private static final int[] FAR = {Integer.MIN_VALUE, -1, Integer.MAX_VALUE};

    private final Check check = new Check("RefusedCallsTest");
    private final Map<String, Supplier<LogDesk>> pasts = new LinkedHashMap<>();

    private RefusedCallsTest() {
        pasts.put("new", () -> new LogDesk(3));
        pasts.put("busy", RefusedCallsTest::busy);
        pasts.put("busy, charge 0", () -> with(busy(), x -> x.charge(0)));
        pasts.put("busy, charge 2", () -> with(busy(), x -> x.charge(2)));
        pasts.put("full", () -> full(0));
        pasts.put("full over the ring's edge", () -> full(700));
        pasts.put("cut", () -> with(busy(), RefusedCallsTest::cut));
    }

    public static void main(String[] args) {
        RefusedCallsTest test = new RefusedCallsTest();
        test.check.about("What throws something else, or answers false, changes nothing");
        for (String past : test.pasts.keySet()) {
            test.refusedPut(past);
            test.refusedFill(past);
            test.refusedAppend(past);
            test.refusedCommit(past);
            test.refusedFlush(past);
            test.refusedTouch(past);
            test.refusedCheckpoint(past);
            test.refusedNext(past);
            test.refusedCharge(past);
            test.onlyAsked(past);
        }
        test.refusedByState();
        test.check.end();
    }

    private static LogDesk with(LogDesk x, Consumer<LogDesk> call) {
        call.accept(x);
        return x;
    }

    /** Something of all: records flushed and not, sessions flushed and not, a hand, pages, a record read. */
    private static LogDesk busy() {
        LogDesk x = Logs.beginningAt(4, 450);
        x.put(0xA1B2C3L, 3);
        x.append(9);
        x.commit(2);
        x.commit(5);
        x.flush(464);
        Logs.extend(x, 700);
        x.commit(1);
        x.put(0x0102030405060708L, 8);
        x.touch(0);
        x.touch(3);
        x.touch(2047);
        x.next();
        x.next();
        return x;
    }

    /** No record fits any more; a session waits, bytes are in hand, a page is touched, the first record is read. */
    private static LogDesk full(int begin) {
        LogDesk x = Logs.beginningAt(32, begin);
        x.commit(3);
        Logs.extend(x, 16000 + begin / 500 * 500);
        x.fill(0x5A, 600);
        x.touch(4);
        x.next();
        return x;
    }

    private static void cut(LogDesk x) {
        x.charge(0);
        Check.answer(() -> x.flush(x.state(1)));
        x.put(7, 2);
        x.append(4);
        x.put(9, 1);
        x.touch(5);
    }

    private void refused(String past, String call, String want, ToIntFunction<LogDesk> body) {
        refused(pasts.get(past), past + ": " + call, want, body);
    }

    private void refused(Supplier<LogDesk> past, String call, String want, ToIntFunction<LogDesk> body) {
        LogDesk x = past.get();
        check.due(call, Check.answer(() -> body.applyAsInt(x)), want);
        String got = Look.at(x);
        String untouched = Look.at(past.get());
        if (!got.equals(untouched)) {
            check.fail(call + " changed something: behind it\n" + got + "and without it\n" + untouched);
        }
    }

    private void refusedPut(String past) {
        int[] wrong = {0, 9, 600};
        for (int n : wrong) {
            refused(past, "put(1, " + n + ")", FALSE, x -> x.put(1, n) ? 1 : 0);
        }
        for (int n : FAR) {
            refused(past, "put(1, " + n + ")", FALSE, x -> x.put(1, n) ? 1 : 0);
        }
    }

    private void refusedFill(String past) {
        int[] wrong = {0, 601};
        for (int n : wrong) {
            refused(past, "fill(1, " + n + ")", FALSE, x -> x.fill(1, n) ? 1 : 0);
        }
        for (int n : FAR) {
            refused(past, "fill(1, " + n + ")", FALSE, x -> x.fill(1, n) ? 1 : 0);
        }
    }

    private void refusedAppend(String past) {
        int[] wrong = {0, 15, 16};
        for (int kind : wrong) {
            refused(past, "append(" + kind + ")", NO_ARGUMENT, x -> x.append(kind));
        }
        for (int kind : FAR) {
            refused(past, "append(" + kind + ")", NO_ARGUMENT, x -> x.append(kind));
        }
    }

    private void refusedCommit(String past) {
        refused(past, "commit(6)", NO_ARGUMENT, x -> x.commit(6));
        for (int s : FAR) {
            refused(past, "commit(" + s + ")", NO_ARGUMENT, x -> x.commit(s));
        }
    }

    private void refusedFlush(String past) {
        int end = pasts.get(past).get().state(1);
        refused(past, "flush behind the end", NO_ARGUMENT, x -> x.flush(end + 1));
        for (int place : FAR) {
            refused(past, "flush(" + place + ")", NO_ARGUMENT, x -> x.flush(place));
        }
    }

    private void refusedTouch(String past) {
        refused(past, "touch(2048)", FALSE, x -> x.touch(2048) ? 1 : 0);
        for (int page : FAR) {
            refused(past, "touch(" + page + ")", FALSE, x -> x.touch(page) ? 1 : 0);
        }
    }

    private void refusedCheckpoint(String past) {
        int begin = pasts.get(past).get().state(0);
        int end = pasts.get(past).get().state(1);
        refused(past, "checkpoint before the beginning", NO_ARGUMENT, x -> x.checkpoint(begin - 1));
        refused(past, "checkpoint in the first head", NO_ARGUMENT, x -> x.checkpoint(begin + 1));
        refused(past, "checkpoint behind the end", NO_ARGUMENT, x -> x.checkpoint(end + 1));
        for (int place : FAR) {
            refused(past, "checkpoint(" + place + ")", NO_ARGUMENT, x -> x.checkpoint(place));
        }
    }

    /** The records are read to the end on both; the last one stays the one that was read. */
    private void refusedNext(String past) {
        Supplier<LogDesk> readToTheEnd = () -> with(pasts.get(past).get(), x -> {
            while (x.state(7) != x.state(1) && x.state(0) != x.state(1)) {
                x.next();
            }
        });
        refused(readToTheEnd, past + ": next() at the end", NO_ELEMENT, LogDesk::next);
    }

    private void refusedCharge(String past) {
        refused(past, "charge(1000)", NO_ARGUMENT, x -> charge(x, 1000));
        for (int n : FAR) {
            refused(past, "charge(" + n + ")", NO_ARGUMENT, x -> charge(x, n));
        }
    }

    private static int charge(LogDesk x, int n) {
        x.charge(n);
        return 0;
    }

    /** Calls that but ask change nothing either, within what there is and beyond it. */
    private void onlyAsked(String past) {
        refused(past, "state(8)", "-1", x -> x.state(8));
        for (int what : FAR) {
            refused(past, "state(" + what + ")", "-1", x -> x.state(what));
            refused(past, "byteOf(" + what + ")", "-1", x -> x.byteOf(what));
        }
        refused(past, "flush(0)", "0", x -> x.flush(0));
    }

    private void refusedByState() {
        refused("busy", "touch(0) again", FALSE, x -> x.touch(0) ? 1 : 0);
        refused("busy", "touch(2047) again", FALSE, x -> x.touch(2047) ? 1 : 0);
        refused("busy", "fill over 600", FALSE, x -> x.fill(1, 593) ? 1 : 0);
        refused("busy", "commit(2), flushed and untold", NO_STATE, x -> x.commit(2));
        refused("busy", "commit(1), not flushed", NO_STATE, x -> x.commit(1));
        refused("busy", "checkpoint not flushed to", NO_ARGUMENT, x -> x.checkpoint(700));
        refused("busy", "checkpoint inside a record", NO_ARGUMENT, x -> x.checkpoint(461));
        refused("busy, charge 0", "checkpoint not flushed to", NO_ARGUMENT, x -> x.checkpoint(700));
        refused("busy, charge 0", "flush of what is flushed", "0", x -> x.flush(464));
        refused("busy, charge 2", "commit(2)", NO_STATE, x -> x.commit(2));
        String[] fulls = {"full", "full over the ring's edge"};
        for (String past : fulls) {
            refused(past, "put over 600", FALSE, x -> x.put(1, 1) ? 1 : 0);
            refused(past, "fill over 600", FALSE, x -> x.fill(1, 1) ? 1 : 0);
            refused(past, "append", NO_STATE, x -> x.append(1));
            refused(past, "commit(0)", NO_STATE, x -> x.commit(0));
            refused(past, "commit(3), which waits", NO_STATE, x -> x.commit(3));
            refused(past, "told() of one not flushed", "-1", LogDesk::told);
        }
        refused("new", "told() of nobody", "-1", LogDesk::told);
        refused("cut", "told() of nobody", "-1", LogDesk::told);
    }
}

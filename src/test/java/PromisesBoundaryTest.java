/** The boundary sentences of promises 1 to 16, one test each, on both sides of the boundary. */
public final class PromisesBoundaryTest {
    private static final int LEAST = Integer.MIN_VALUE;
    private static final int MOST = Integer.MAX_VALUE;

    private final Check check = new Check("PromisesBoundaryTest");

    public static void main(String[] args) {
        PromisesBoundaryTest test = new PromisesBoundaryTest();
        test.newObjectIsEmpty();
        test.roomOf3To32();
        test.putOf1To8();
        test.putWithinHand();
        test.putHighestFirst();
        test.fillOf1To600();
        test.fillWithinHand();
        test.fillLowestEightBits();
        test.appendKind1To14();
        test.appendToFullLog();
        test.appendEmptiesHand();
        test.commitOfSessions0To5();
        test.commitOfWaitingSession();
        test.commitToFullLog();
        test.commitLeavesHand();
        test.flushFrom0ToTheEnd();
        test.flushCountsBlocks();
        test.toldFirst();
        test.toldIfFlushed();
        test.toldOfNobody();
        test.touchPages0To2047();
        test.touchSinceMarkOpenOrCut();
        test.markTouchesNone();
        test.checkpointAtBeginningOrRecordsEnd();
        test.checkpointFlushedToThat();
        test.checkpointFreeBlocks();
        test.checkpointWritesOneBlock();
        test.openAtRecordsEndOrBefore();
        test.openWithoutWholeRecord();
        test.openCountsRecords();
        test.openEmptiesAllElse();
        test.nextAtTheEnd();
        test.lengthOfNoneAndOfEmpty();
        test.byteOfWithinRecord();
        test.byteOfIs0To255();
        test.byteOfNone();
        test.chargeOf0To999();
        test.chargeTakesTheOldOnesPlace();
        test.stateOf0To7();
        test.stateOfRecordRead();
        test.check.end();
    }

    private void newObjectIsEmpty() {
        check.about("Promise 1: As said above; no pages are touched, nobody waits");
        LogDesk x = new LogDesk(3);
        check.states("new", x, 0, 0, 0, 0, 0, 0, 0, -1);
        check.due("told()", x.told(), -1);
        check.due("touch(0)", x.touch(0), true);
        check.due("commit(0)", x.commit(0), 4);
        check.states("used", x, 0, 4, 0, 0, 0, 1, 1, -1);
    }

    private void roomOf3To32() {
        check.about("Promise 1: N is blocks, if that is 3 .. 32, otherwise 32");
        int[] asked = {LEAST, -3, 0, 1, 2, 3, 4, 31, 32, 33, 64, MOST};
        int[] rooms = {32, 32, 32, 32, 32, 3, 4, 31, 32, 32, 32, 32};
        for (int i = 0; i < asked.length; i++) {
            String when = "LogDesk(" + asked[i] + "): ";
            LogDesk x = Logs.endingAt(asked[i], 500 * rooms[i] - 3);
            check.due(when + "checkpoint(0)", x.checkpoint(0), 0);
            check.due(when + "append to the limit", x.append(1), 500 * rooms[i]);
            check.throwing(when + "append at the limit", Check.STATE, () -> x.append(1));
        }
    }

    private void putOf1To8() {
        check.about("Promise 2: false if n is not 1 .. 8");
        int[] wrong = {LEAST, -8, -1, 0, 9, 10, 600, MOST};
        LogDesk x = new LogDesk(3);
        for (int n : wrong) {
            check.due("put(-1, " + n + ")", x.put(-1, n), false);
            check.due("in hand", x.state(4), 0);
        }
        int bytes = 0;
        for (int n = 1; n <= 8; n++) {
            check.due("put(-1, " + n + ")", x.put(-1, n), true);
            bytes += n;
            check.due("in hand", x.state(4), bytes);
        }
    }

    private void putWithinHand() {
        check.about("Promise 2: false if .. it would have more than 600");
        for (int n = 1; n <= 8; n++) {
            LogDesk x = new LogDesk(3);
            x.fill(0, 601 - n);
            check.due("put to 601, n " + n, x.put(1, n), false);
            check.due("in hand", x.state(4), 601 - n);
            LogDesk y = new LogDesk(3);
            y.fill(0, 600 - n);
            check.due("put to 600, n " + n, y.put(1, n), true);
            check.due("in hand", y.state(4), 600);
            check.due("put behind 600, n " + n, y.put(1, n), false);
            check.due("in hand", y.state(4), 600);
            y.append(1);
            y.next();
            check.due("byteOf(599)", y.byteOf(599), 1);
        }
        LogDesk z = new LogDesk(3);
        for (int i = 0; i < 75; i++) {
            check.due("put 8, the " + (i + 1) + "th", z.put(i, 8), true);
        }
        check.due("put 8, the 76th", z.put(75, 8), false);
        check.due("in hand", z.state(4), 600);
    }

    private void putHighestFirst() {
        check.about("Promise 2: The lowest n bytes of v, the highest of them first, come behind those of the record");
        for (int n = 1; n <= 8; n++) {
            LogDesk x = new LogDesk(3);
            x.put(0xEE, 1);
            x.put(0xF1F2F3F4F5F6F7F8L, n);
            x.append(1);
            x.next();
            check.due("length()", x.length(), n + 1);
            check.due("byteOf(0)", x.byteOf(0), 0xEE);
            for (int i = 1; i <= n; i++) {
                check.due("n " + n + ": byteOf(" + i + ")", x.byteOf(i), 0xF8 - n + i);
            }
        }
        LogDesk y = new LogDesk(3);
        y.put(Long.MIN_VALUE, 8);
        y.put(Long.MAX_VALUE, 8);
        y.append(1);
        y.next();
        int[] bytes = {128, 0, 0, 0, 0, 0, 0, 0, 127, 255, 255, 255, 255, 255, 255, 255};
        for (int i = 0; i < bytes.length; i++) {
            check.due("byteOf(" + i + ")", y.byteOf(i), bytes[i]);
        }
    }

    private void fillOf1To600() {
        check.about("Promise 3: false if n is not 1 .. 600");
        int[] wrong = {LEAST, -600, -1, 0, 601, 602, MOST};
        LogDesk x = new LogDesk(3);
        for (int n : wrong) {
            check.due("fill(1, " + n + ")", x.fill(1, n), false);
            check.due("in hand", x.state(4), 0);
        }
        int[] right = {1, 2, 255, 256, 599, 600};
        for (int n : right) {
            LogDesk y = new LogDesk(3);
            check.due("fill(1, " + n + ")", y.fill(1, n), true);
            check.due("in hand", y.state(4), n);
        }
    }

    private void fillWithinHand() {
        check.about("Promise 3: false if .. it would have more than 600");
        int[] held = {1, 2, 300, 599, 600};
        for (int bytes : held) {
            LogDesk x = new LogDesk(3);
            x.fill(1, bytes);
            check.due("fill to 601 behind " + bytes, x.fill(2, 601 - bytes), false);
            check.due("fill 600 behind " + bytes, x.fill(2, 600), false);
            check.due("in hand", x.state(4), bytes);
            check.due("fill to 600 behind " + bytes, x.fill(2, 600 - bytes), bytes < 600);
            check.due("in hand", x.state(4), 600);
            x.append(1);
            x.next();
            check.due("byteOf(" + (bytes - 1) + ")", x.byteOf(bytes - 1), 1);
            check.due("byteOf(" + bytes + ")", x.byteOf(bytes), bytes < 600 ? 2 : -1);
        }
    }

    private void fillLowestEightBits() {
        check.about("Promise 3: each the lowest eight bits of v");
        int[] values = {0, 127, 128, 255, 256, 257, -1, -128, -256, LEAST, MOST};
        int[] bytes = {0, 127, 128, 255, 0, 1, 255, 128, 0, 0, 255};
        for (int i = 0; i < values.length; i++) {
            LogDesk x = new LogDesk(3);
            x.fill(values[i], 2);
            x.append(1);
            x.next();
            check.due("fill(" + values[i] + ", 2): byteOf(0)", x.byteOf(0), bytes[i]);
            check.due("fill(" + values[i] + ", 2): byteOf(1)", x.byteOf(1), bytes[i]);
        }
    }

    private void appendKind1To14() {
        check.about("Promise 4: IllegalArgumentException: kind is not 1 .. 14");
        LogDesk x = new LogDesk(3);
        x.put(1, 2);
        int[] wrong = {LEAST, -1, 0, 15, 16, 256 + 1, MOST};
        for (int kind : wrong) {
            check.throwing("append(" + kind + ")", Check.ARGUMENT, () -> x.append(kind));
        }
        check.states("refused", x, 0, 0, 0, 0, 2);
        check.due("append(1)", x.append(1), 5);
        check.due("append(14)", x.append(14), 8);
        check.due("next()", x.next(), 1);
        check.due("next()", x.next(), 14);
    }

    private void appendToFullLog() {
        check.about("Promise 4: IllegalStateException: the log is full for it");
        LogDesk x = Logs.endingAt(3, 1400);
        x.fill(1, 98);
        check.throwing("append to place 1500", Check.STATE, () -> x.append(1));
        check.states("refused", x, 0, 1400, 0, 0, 98);
        check.throwing("a wrong kind in a full log", Check.ARGUMENT, () -> x.append(15));
        LogDesk y = Logs.endingAt(3, 1400);
        y.fill(1, 97);
        check.due("append to place 1499", y.append(1), 1500);
        y.fill(1, 1);
        check.throwing("append at 1500", Check.STATE, () -> y.append(1));
        y.flush(1500);
        y.checkpoint(603);
        check.due("append behind a checkpoint", y.append(1), 1504);
        LogDesk smaller = Logs.endingAt(3, 1497);
        smaller.put(1, 1);
        check.throwing("append of one byte to place 1500", Check.STATE, () -> smaller.append(1));
        check.throwing("commit to place 1500", Check.STATE, () -> smaller.commit(0));
        LogDesk empty = Logs.endingAt(3, 1497);
        check.due("append of no bytes to place 1499", empty.append(1), 1500);
    }

    private void appendEmptiesHand() {
        check.about("Promise 4: The one in hand has no bytes then");
        LogDesk x = new LogDesk(3);
        x.fill(1, 600);
        x.append(1);
        check.due("in hand", x.state(4), 0);
        check.due("fill 600 anew", x.fill(2, 600), true);
        check.due("append", x.append(2), 1206);
        check.due("append of no bytes", x.append(3), 1209);
    }

    private void commitOfSessions0To5() {
        check.about("Promise 5: IllegalArgumentException: there is no such session");
        LogDesk x = new LogDesk(3);
        int[] wrong = {LEAST, -1, 6, 7, 256, MOST};
        for (int s : wrong) {
            check.throwing("commit(" + s + ")", Check.ARGUMENT, () -> x.commit(s));
        }
        check.states("refused", x, 0, 0, 0, 0, 0, 0);
        check.due("commit(0)", x.commit(0), 4);
        check.due("commit(5)", x.commit(5), 8);
        x.next();
        check.due("byteOf(0)", x.byteOf(0), 0);
        x.next();
        check.due("byteOf(0)", x.byteOf(0), 5);
    }

    private void commitOfWaitingSession() {
        check.about("Promise 5: IllegalStateException: it waits");
        LogDesk x = new LogDesk(3);
        for (int s = 0; s < 6; s++) {
            check.due("commit(" + s + ")", x.commit(s), 4 * s + 4);
            int session = s;
            check.throwing("commit(" + s + ") again", Check.STATE, () -> x.commit(session));
        }
        check.states("refused", x, 0, 24, 0, 0, 0, 6);
        x.flush(24);
        for (int s = 0; s < 6; s++) {
            int session = s;
            check.throwing("commit(" + s + ") untold", Check.STATE, () -> x.commit(session));
            check.due("told()", x.told(), s);
            check.due("commit(" + s + ") told", x.commit(s), 28 + 4 * s);
        }
        x.open();
        check.due("commit(0) behind open()", x.commit(0), 28);
        LogDesk full = Logs.endingAt(3, 1496);
        full.commit(1);
        check.throwing("waits, and full", Check.STATE, () -> full.commit(1));
    }

    private void commitToFullLog() {
        check.about("Promise 5: IllegalStateException: .. the log is full for it");
        LogDesk x = Logs.endingAt(3, 1497);
        check.throwing("commit to place 1500", Check.STATE, () -> x.commit(2));
        check.states("refused", x, 0, 1497, 0, 0, 0, 0);
        check.throwing("no such session in a full log", Check.ARGUMENT, () -> x.commit(6));
        LogDesk y = Logs.endingAt(3, 1496);
        y.fill(1, 600);
        check.due("commit to place 1499", y.commit(2), 1500);
        check.throwing("commit at 1500", Check.STATE, () -> y.commit(3));
        check.states("full", y, 0, 1500, 0, 0, 600, 1);
    }

    private void commitLeavesHand() {
        check.about("Promise 5: (the record in hand stays)");
        LogDesk x = new LogDesk(3);
        check.due("commit with an empty hand", x.commit(0), 4);
        check.due("in hand", x.state(4), 0);
        x.fill(9, 600);
        check.due("commit with a full hand", x.commit(1), 8);
        check.due("in hand", x.state(4), 600);
        check.due("append", x.append(3), 611);
        x.next();
        x.next();
        check.due("length() of the commit", x.length(), 1);
        check.due("next()", x.next(), 3);
        check.due("byteOf(599)", x.byteOf(599), 9);
    }

    private void flushFrom0ToTheEnd() {
        check.about("Promise 6: IllegalArgumentException: place is below 0, or above the log's end");
        LogDesk none = new LogDesk(3);
        check.throwing("flush(-1) of nothing", Check.ARGUMENT, () -> none.flush(-1));
        check.due("flush(0) of nothing", none.flush(0), 0);
        check.throwing("flush(1) of nothing", Check.ARGUMENT, () -> none.flush(1));
        int[] ends = {3, 499, 500, 501, 1500};
        for (int end : ends) {
            LogDesk x = Logs.endingAt(3, end);
            int[] wrong = {LEAST, -1, end + 1, end + 500, MOST};
            for (int place : wrong) {
                check.throwing("flush(" + place + ")", Check.ARGUMENT, () -> x.flush(place));
            }
            check.states("refused", x, 0, end, 0, 0);
            check.due("flush(0)", x.flush(0), 0);
            check.due("flush(" + end + ")", x.flush(end), (end + 499) / 500);
            check.states("flushed", x, 0, end, end, (end + 499) / 500);
            check.throwing("flush(" + (end + 1) + ")", Check.ARGUMENT, () -> x.flush(end + 1));
        }
        LogDesk moved = Logs.beginningAt(3, 700);
        check.due("flush(0) before the beginning", moved.flush(0), 0);
        check.due("flush(699) before the beginning", moved.flush(699), 0);
        check.throwing("flush(-1) before the beginning", Check.ARGUMENT, () -> moved.flush(-1));
    }

    private void flushCountsBlocks() {
        check.about("Promise 6: The log is flushed to a place: how many blocks were written");
        LogDesk x = Logs.endingAt(32, 16000);
        check.due("flush(16000)", x.flush(16000), 32);
        check.due("flush(16000) again", x.flush(16000), 0);
        check.due("written", x.state(3), 32);
        LogDesk y = Logs.flushedAt(3, 499);
        y.append(1);
        check.due("the block of 499 anew, and one more", y.flush(501), 2);
        check.due("written", y.state(3), 3);
    }

    private void toldFirst() {
        check.about("Promise 7: Of the sessions that wait, the one whose commit's record ends first");
        int[] order = {3, 5, 0, 4, 1, 2};
        LogDesk x = new LogDesk(3);
        for (int s : order) {
            x.commit(s);
        }
        x.flush(24);
        check.due("told()", x.told(), 3);
        x.commit(3);
        x.flush(28);
        for (int i = 1; i < 6; i++) {
            check.due("told()", x.told(), order[i]);
            check.due("waiting", x.state(5), 6 - i);
        }
        check.due("told() of the one that came again", x.told(), 3);
        check.due("told() of nobody", x.told(), -1);
    }

    private void toldIfFlushed() {
        check.about("Promise 7: if the log is flushed to that: it waits no more. -1 if it is not");
        LogDesk less = Logs.endingAt(3, 497);
        less.commit(4);
        less.flush(500);
        check.due("told(), flushed to 500 of 501", less.told(), -1);
        check.due("it waits", less.state(5), 1);
        LogDesk just = Logs.endingAt(3, 496);
        just.commit(4);
        just.append(1);
        just.flush(500);
        check.due("told(), flushed to 500 of 500", just.told(), 4);
        check.due("it waits no more", just.state(5), 0);
        LogDesk two = Logs.endingAt(3, 492);
        two.commit(1);
        two.commit(0);
        two.commit(2);
        two.flush(1);
        check.due("told() of the first", two.told(), 1);
        check.due("told() of the second", two.told(), 0);
        check.due("told() of the third", two.told(), -1);
        check.due("told() of the third again", two.told(), -1);
        check.due("waiting", two.state(5), 1);
    }

    private void toldOfNobody() {
        check.about("Promise 7: -1 if .. nobody waits");
        LogDesk x = new LogDesk(3);
        check.due("told() in a new log", x.told(), -1);
        x.append(1);
        x.flush(3);
        check.due("told() without commits", x.told(), -1);
        x.commit(0);
        x.flush(7);
        check.due("told()", x.told(), 0);
        check.due("told() again", x.told(), -1);
        x.commit(1);
        x.flush(11);
        x.open();
        check.due("told() behind open()", x.told(), -1);
    }

    private void touchPages0To2047() {
        check.about("Promise 8: A page 0 .. 2047 is touched: whether it was not .. false if there is no such page");
        int[] wrong = {LEAST, -2048, -1, 2048, 2049, 4096, MOST};
        LogDesk x = new LogDesk(3);
        for (int page : wrong) {
            check.due("touch(" + page + ")", x.touch(page), false);
            check.due("touched", x.state(6), 0);
        }
        for (int from = 0; from < 2048; from += 128) {
            LogDesk y = new LogDesk(3);
            for (int page = from; page < from + 128; page++) {
                check.due("touch(" + page + ")", y.touch(page), true);
                check.due("touched", y.state(6), page - from + 1);
            }
            for (int page = from; page < from + 128; page++) {
                check.due("touch(" + page + ") again", y.touch(page), false);
            }
            check.due("touched", y.state(6), 128);
        }
    }

    private void touchSinceMarkOpenOrCut() {
        check.about("Promise 8: whether it was not, since the latest mark(), or open() or cut of power");
        LogDesk x = new LogDesk(3);
        int[] pages = {0, 63, 64, 2047};
        for (int page : pages) {
            check.due("touch(" + page + ")", x.touch(page), true);
            check.due("touch(" + page + ") again", x.touch(page), false);
            x.checkpoint(0);
            x.flush(0);
            check.due("touch(" + page + ") behind a checkpoint", x.touch(page), false);
            x.mark();
            check.due("touch(" + page + ") behind mark()", x.touch(page), true);
            x.open();
            check.due("touch(" + page + ") behind open()", x.touch(page), true);
            x.charge(0);
            check.throwing("checkpoint(0)", Check.POWER, () -> x.checkpoint(0));
            check.due("touch(" + page + ") behind a cut", x.touch(page), true);
            check.due("touch(" + page + ") again", x.touch(page), false);
            x.mark();
        }
        x.touch(9);
        x.append(1);
        x.charge(0);
        check.throwing("flush(3)", Check.POWER, () -> x.flush(3));
        check.due("touch(9) behind a cut in a flush", x.touch(9), true);
    }

    private void markTouchesNone() {
        check.about("Promise 9: No page is touched: where the log ends");
        LogDesk x = new LogDesk(3);
        check.due("mark() of nothing", x.mark(), 0);
        x.touch(0);
        x.touch(2047);
        x.append(1);
        check.due("mark()", x.mark(), 3);
        check.due("touched", x.state(6), 0);
        check.due("touch(0)", x.touch(0), true);
        check.due("touch(2047)", x.touch(2047), true);
        check.due("touched", x.state(6), 2);
        LogDesk full = Logs.endingAt(3, 1500);
        check.due("mark() of a full log", full.mark(), 1500);
        LogDesk moved = Logs.beginningAt(3, 1234);
        check.due("mark() of a log that begins at its end", moved.mark(), 1234);
    }

    private void checkpointAtBeginningOrRecordsEnd() {
        check.about("Promise 10: IllegalArgumentException: the log neither begins there, nor does one of its records end");
        int[] edges = {100, 103, 107, 500, 1000};
        for (int edge : edges) {
            LogDesk x = recordsTo(edges);
            check.throwing("checkpoint(" + (edge - 1) + ")", Check.ARGUMENT, () -> x.checkpoint(edge - 1));
            check.throwing("checkpoint(" + (edge + 1) + ")", Check.ARGUMENT, () -> x.checkpoint(edge + 1));
            check.states("refused", x, 0, 1000, 1000, 2);
            check.due("checkpoint(" + edge + ")", x.checkpoint(edge), edge / 500 + 1);
            check.states("begun", x, edge, 1000, 1000, 3);
            check.throwing("checkpoint before the beginning", Check.ARGUMENT, () -> x.checkpoint(0));
            check.throwing("checkpoint one before", Check.ARGUMENT, () -> x.checkpoint(edge - 1));
            check.due("checkpoint where it begins", x.checkpoint(edge), edge / 500 + 1);
        }
        LogDesk x = recordsTo(edges);
        int[] wrong = {LEAST, -1, 1, 1001, 1003, MOST};
        for (int place : wrong) {
            check.throwing("checkpoint(" + place + ")", Check.ARGUMENT, () -> x.checkpoint(place));
        }
        check.due("checkpoint(0) where it begins", x.checkpoint(0), 1);
        x.checkpoint(107);
        check.throwing("checkpoint(103), an edge of old", Check.ARGUMENT, () -> x.checkpoint(103));
        LogDesk none = Logs.beginningAt(4, 700);
        check.throwing("checkpoint(699) without records", Check.ARGUMENT, () -> none.checkpoint(699));
        check.due("checkpoint(700) without records", none.checkpoint(700), 3);
        check.throwing("checkpoint(701) without records", Check.ARGUMENT, () -> none.checkpoint(701));
    }

    /** Records that end at each of these places; all is flushed. */
    private static LogDesk recordsTo(int... edges) {
        LogDesk x = new LogDesk(4);
        for (int edge : edges) {
            Logs.extend(x, edge);
        }
        x.flush(x.state(1));
        return x;
    }

    private void checkpointFlushedToThat() {
        check.about("Promise 10: IllegalArgumentException: .. or it is not flushed to that");
        LogDesk x = Logs.flushedAt(4, 100);
        Logs.record(x, 50);
        check.throwing("checkpoint(150) unflushed", Check.ARGUMENT, () -> x.checkpoint(150));
        check.states("refused", x, 0, 150, 100, 1);
        check.due("checkpoint(100) flushed", x.checkpoint(100), 3);
        x.flush(150);
        check.due("checkpoint(150) flushed", x.checkpoint(150), 3);
        LogDesk just = Logs.endingAt(4, 500);
        Logs.record(just, 10);
        just.flush(1);
        check.due("checkpoint(500), flushed to 500", just.checkpoint(500), 3);
        LogDesk less = Logs.endingAt(4, 501);
        less.flush(500);
        check.throwing("checkpoint(501), flushed to 500", Check.ARGUMENT, () -> less.checkpoint(501));
        check.throwing("checkpoint(500), inside a record", Check.ARGUMENT, () -> less.checkpoint(500));
        less.charge(0);
        check.throwing("refused before the power goes", Check.ARGUMENT, () -> less.checkpoint(501));
    }

    private void checkpointFreeBlocks() {
        check.about("Promise 10: how many blocks are free then, N less those from the one in which it begins to the "
            + "one in which it ends (the one that has the end itself)");
        int[] begins = {0, 499, 500, 999, 1000};
        for (int begin : begins) {
            for (int end = begin + 3; end < 1503; end++) {
                if (end % 500 <= 3 || end % 500 >= 497) {
                    freeBlocksFrom(begin, end);
                }
            }
        }
        LogDesk last = Logs.endingAt(3, 1499);
        check.due("end in the last block", last.checkpoint(0), 0);
        LogDesk behind = Logs.endingAt(3, 1500);
        check.due("end just behind the last block", behind.checkpoint(0), -1);
        behind.flush(1500);
        check.due("begins where it ends", behind.checkpoint(1500), 2);
    }

    private void freeBlocksFrom(int begin, int end) {
        LogDesk x = Logs.beginningAt(6, begin);
        Logs.extend(x, end);
        check.due("begin " + begin + ", end " + end, x.checkpoint(begin), 6 - (end / 500 - begin / 500 + 1));
        x.flush(end);
        check.due("begin and end " + end, x.checkpoint(end), 5);
    }

    private void checkpointWritesOneBlock() {
        check.about("Promise 10: The log begins at a place from now on; one block is written");
        LogDesk x = Logs.endingAt(5, 1000);
        Logs.record(x, 400);
        x.flush(1001);
        check.due("written", x.state(3), 3);
        x.checkpoint(1000);
        check.states("over two blocks", x, 1000, 1400, 1400, 4);
        x.checkpoint(1000);
        check.states("to the same place", x, 1000, 1400, 1400, 5);
        check.due("next()", x.next(), 1 + 400 % 14);
        check.throwing("next()", Check.ELEMENT, x::next);
    }

    private void openAtRecordsEndOrBefore() {
        check.about("Promise 11: the log ends with the last record that ends where it is flushed to, or before");
        int[] ends = {498, 499, 500, 501, 502, 503};
        for (int end : ends) {
            LogDesk x = Logs.endingAt(4, 200);
            Logs.record(x, end - 200);
            Logs.record(x, 400);
            check.due("flush(1)", x.flush(1), 1);
            check.due("flushed to", x.state(2), 500);
            boolean kept = end <= 500;
            check.due("open(), a record to " + end, x.open(), kept ? 2 : 1);
            check.states("a record to " + end, x, 0, kept ? end : 200, kept ? end : 200, 1);
            check.due("open() again", x.open(), kept ? 2 : 1);
            x.append(1);
            check.due("flush from there", x.flush(x.state(1)), kept && end > 497 && end < 500 ? 2 : 1);
        }
    }

    private void openWithoutWholeRecord() {
        check.about("Promise 11: What is not flushed is lost");
        LogDesk none = new LogDesk(4);
        check.due("open() of nothing", none.open(), 0);
        Logs.record(none, 501);
        check.due("open() of nothing flushed", none.open(), 0);
        check.states("nothing flushed", none, 0, 0, 0, 0);
        Logs.record(none, 501);
        none.flush(500);
        check.due("open() of a record but for a place", none.open(), 0);
        check.states("a record but for a place", none, 0, 0, 0, 1);
        check.throwing("next()", Check.ELEMENT, none::next);
        Logs.record(none, 501);
        none.flush(501);
        check.due("open() of a whole record", none.open(), 1);
        check.states("a whole record", none, 0, 501, 501, 3);
        LogDesk moved = Logs.beginningAt(4, 800);
        Logs.record(moved, 300);
        moved.flush(801);
        check.due("flushed to", moved.state(2), 1000);
        check.due("open() of a log that begins at 800", moved.open(), 0);
        check.states("ends where it begins", moved, 800, 800, 800);
        check.due("checkpoint(800)", moved.checkpoint(800), 3);
        Logs.record(moved, 4);
        lostBytesStayLost(moved);
    }

    /** A lost record's bytes are not read behind a shorter one in its place. */
    private void lostBytesStayLost(LogDesk moved) {
        check.due("next() of the new record", moved.next(), 5);
        check.due("byteOf(0) of the new record", moved.byteOf(0), 4);
        check.throwing("next() where the lost one was", Check.ELEMENT, moved::next);
    }

    private void openCountsRecords() {
        check.about("Promise 11: How many records it has");
        LogDesk x = new LogDesk(3);
        for (int count = 0; count <= 100; count++) {
            check.due("open() of " + count, x.open(), count);
            check.due("append", x.append(1), 3 * count + 3);
            x.flush(3 * count + 3);
        }
        x.checkpoint(300);
        check.due("open() from the last one on", x.open(), 1);
        x.checkpoint(303);
        check.due("open() from the end on", x.open(), 0);
    }

    private void openEmptiesAllElse() {
        check.about("Promise 11: The record in hand has no bytes, nobody waits, no page is touched");
        LogDesk x = new LogDesk(3);
        x.fill(1, 600);
        for (int s = 0; s < 6; s++) {
            x.commit(s);
        }
        x.touch(0);
        x.touch(2047);
        x.flush(24);
        check.states("before", x, 0, 24, 24, 1, 600, 6, 2);
        check.due("open()", x.open(), 6);
        check.states("open", x, 0, 24, 24, 1, 0, 0, 0, -1);
        check.due("put", x.put(1, 1), true);
        check.due("commit(0)", x.commit(0), 28);
        check.due("touch(0)", x.touch(0), true);
        check.states("anew", x, 0, 28, 24, 1, 1, 1, 1);
        LogDesk none = new LogDesk(3);
        none.open();
        check.states("open of a new object", none, 0, 0, 0, 0, 0, 0, 0, -1);
    }

    private void nextAtTheEnd() {
        check.about("Promise 12: NoSuchElementException: there is no other one");
        LogDesk x = new LogDesk(3);
        check.throwing("next() of nothing", Check.ELEMENT, x::next);
        check.due("none was read", x.length(), -1);
        x.append(14);
        check.due("next() of the only one", x.next(), 14);
        check.throwing("next() behind it", Check.ELEMENT, x::next);
        check.throwing("next() behind it again", Check.ELEMENT, x::next);
        check.due("it stays read", x.state(7), 3);
        x.commit(3);
        check.due("next() of one that came since", x.next(), 15);
        check.throwing("next() behind that", Check.ELEMENT, x::next);
        LogDesk full = Logs.endingAt(3, 1500);
        for (int i = 0; i < 3; i++) {
            full.next();
        }
        check.due("the last ends at the room's end", full.state(7), 1500);
        check.throwing("next() of a full log", Check.ELEMENT, full::next);
        LogDesk moved = Logs.beginningAt(3, 700);
        check.throwing("next() of a log that begins at its end", Check.ELEMENT, moved::next);
    }

    private void lengthOfNoneAndOfEmpty() {
        check.about("Promise 13: How many bytes the record that was read has; -1 if none was");
        LogDesk x = new LogDesk(4);
        check.due("length() in a new log", x.length(), -1);
        x.append(1);
        check.due("length() unread", x.length(), -1);
        x.next();
        check.due("length() of no bytes", x.length(), 0);
        int[] lengths = {1, 127, 128, 255, 256, 512, 600};
        for (int bytes : lengths) {
            Logs.record(x, bytes + 3);
            x.next();
            check.due("length() of " + bytes, x.length(), bytes);
        }
        x.fill(1, 9);
        check.due("length() is not the hand's", x.length(), 600);
        x.open();
        check.due("length() behind open()", x.length(), -1);
    }

    private void byteOfWithinRecord() {
        check.about("Promise 14: Byte i of the record that was read .. -1 if there is none such");
        int[] lengths = {0, 1, 2, 8, 255, 256, 500, 600};
        for (int bytes : lengths) {
            LogDesk x = new LogDesk(4);
            if (bytes > 0) {
                x.fill(7, bytes);
            }
            x.append(1);
            x.fill(9, 600);
            x.append(2);
            x.next();
            int[] wrong = {LEAST, -3, -2, -1, bytes, bytes + 1, bytes + 3, MOST};
            for (int i : wrong) {
                check.due(bytes + " bytes: byteOf(" + i + ")", x.byteOf(i), -1);
            }
            check.due(bytes + " bytes: byteOf(0)", x.byteOf(0), bytes > 0 ? 7 : -1);
            check.due(bytes + " bytes: the last", x.byteOf(bytes - 1), bytes > 0 ? 7 : -1);
        }
    }

    private void byteOfIs0To255() {
        check.about("Promise 14: 0 .. 255");
        LogDesk x = new LogDesk(3);
        for (int i = 0; i < 32; i++) {
            long v = 0;
            for (int k = 0; k < 8; k++) {
                v = v << 8 | 8 * i + k;
            }
            x.put(v, 8);
        }
        x.append(1);
        x.next();
        for (int i = 0; i < 256; i++) {
            check.due("byteOf(" + i + ")", x.byteOf(i), i);
        }
        check.due("byteOf(256)", x.byteOf(256), -1);
    }

    private void byteOfNone() {
        check.about("Promise 14: -1 if .. none was read");
        LogDesk x = new LogDesk(3);
        check.due("byteOf(0) in a new log", x.byteOf(0), -1);
        x.put(5, 1);
        check.due("byteOf(0) of the one in hand", x.byteOf(0), -1);
        x.append(1);
        check.due("byteOf(0) unread", x.byteOf(0), -1);
        x.next();
        check.due("byteOf(0) read", x.byteOf(0), 5);
        x.flush(4);
        x.checkpoint(0);
        check.due("byteOf(0) behind a checkpoint", x.byteOf(0), -1);
        check.due("byteOf(-1) behind a checkpoint", x.byteOf(-1), -1);
    }

    private void chargeOf0To999() {
        check.about("Promise 15: IllegalArgumentException: n is not 0 .. 999");
        int[] wrong = {LEAST, -1, 1000, 1001, MOST};
        LogDesk x = new LogDesk(3);
        for (int n : wrong) {
            check.throwing("charge(" + n + ")", Check.ARGUMENT, () -> x.charge(n));
        }
        check.due("no charge was set", x.checkpoint(0), 2);
        x.charge(1);
        for (int n : wrong) {
            check.throwing("charge(" + n + ")", Check.ARGUMENT, () -> x.charge(n));
        }
        check.due("the charge stays", x.checkpoint(0), 2);
        check.throwing("the charge stays, and is used up", Check.POWER, () -> x.checkpoint(0));
        LogDesk none = new LogDesk(3);
        none.charge(0);
        check.throwing("charge(0)", Check.POWER, () -> none.checkpoint(0));
        LogDesk most = new LogDesk(3);
        most.charge(999);
        for (int i = 0; i < 500; i++) {
            check.due("charge(999), block " + (i + 1), most.checkpoint(0), 2);
        }
    }

    private void chargeTakesTheOldOnesPlace() {
        check.about("Promise 15: n more blocks can be written");
        int[] charges = {0, 1, 2, 31};
        for (int n : charges) {
            LogDesk x = new LogDesk(3);
            x.charge(5);
            x.checkpoint(0);
            x.charge(n);
            for (int i = 0; i < n; i++) {
                check.due("charge(" + n + "), block " + (i + 1), x.checkpoint(0), 2);
            }
            check.throwing("charge(" + n + "), one more", Check.POWER, () -> x.checkpoint(0));
            check.due("charge(" + n + "), written", x.state(3), n + 1);
        }
        LogDesk used = new LogDesk(3);
        used.charge(0);
        used.charge(1);
        check.due("charge(1) behind charge(0)", used.checkpoint(0), 2);
    }

    private void stateOf0To7() {
        check.about("Promise 16: -1 for another what");
        LogDesk x = Logs.flushedAt(4, 20);
        Logs.record(x, 30);
        x.checkpoint(20);
        x.commit(1);
        x.put(1, 6);
        x.touch(1);
        x.touch(2);
        x.touch(3);
        x.next();
        x.next();
        check.states("all", x, 20, 54, 20, 2, 6, 1, 3, 54);
        int[] wrong = {LEAST, -8, -2, -1, 8, 9, 256, MOST};
        for (int what : wrong) {
            check.due("state(" + what + ")", x.state(what), -1);
        }
    }

    private void stateOfRecordRead() {
        check.about("Promise 16: 7 where the record that was read ends (-1 if none was)");
        LogDesk x = new LogDesk(4);
        check.due("state(7) in a new log", x.state(7), -1);
        Logs.record(x, 500);
        x.append(1);
        Logs.record(x, 603);
        check.due("state(7) unread", x.state(7), -1);
        int[] ends = {500, 503, 1106};
        for (int end : ends) {
            x.next();
            check.due("state(7)", x.state(7), end);
        }
        x.flush(1106);
        check.due("state(7) behind a flush", x.state(7), 1106);
        x.checkpoint(503);
        check.due("state(7) behind a checkpoint", x.state(7), -1);
        x.next();
        check.due("state(7)", x.state(7), 1106);
    }
}

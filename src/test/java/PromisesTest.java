/** Each promise of the document by hand: ordinary inputs, its edges, and wrong inputs. */
public final class PromisesTest {
    private final Check check = new Check("PromisesTest");

    public static void main(String[] args) {
        PromisesTest test = new PromisesTest();
        test.newObject();
        test.roomOfNewObject();
        test.put();
        test.fill();
        test.append();
        test.appendToFullLog();
        test.commit();
        test.commitToFullLog();
        test.flush();
        test.flushAtBlockEdges();
        test.told();
        test.toldBehindCheckpoint();
        test.touch();
        test.mark();
        test.checkpoint();
        test.checkpointFreeBlocks();
        test.checkpointWrong();
        test.open();
        test.openInsideRecord();
        test.next();
        test.nextStartsAnew();
        test.length();
        test.byteOf();
        test.charge();
        test.cutInsideFlush();
        test.cutAtCheckpoint();
        test.state();
        test.ringGoesRound();
        test.wholeRoom();
        test.farBeyondCalls();
        test.check.end();
    }

    private void newObject() {
        LogDesk x = new LogDesk(7);
        check.states("new", x, 0, 0, 0, 0, 0, 0, 0, -1);
        check.due("new: length()", x.length(), -1);
        check.due("new: byteOf(0)", x.byteOf(0), -1);
        check.due("new: told()", x.told(), -1);
        check.due("new: mark()", x.mark(), 0);
        check.due("new: flush(0)", x.flush(0), 0);
        check.due("new: open()", x.open(), 0);
        check.throwing("new: next()", Check.ELEMENT, x::next);
    }

    private void roomOfNewObject() {
        int[] asked = {3, 4, 31, 32, 2, 33, 0, -1, Integer.MIN_VALUE, Integer.MAX_VALUE};
        int[] rooms = {3, 4, 31, 32, 32, 32, 32, 32, 32, 32};
        for (int i = 0; i < asked.length; i++) {
            LogDesk x = new LogDesk(asked[i]);
            check.due("new " + asked[i] + ": checkpoint(0)", x.checkpoint(0), rooms[i] - 1);
            for (int half = 0; half < 2 * rooms[i]; half++) {
                Logs.record(x, 250);
            }
            check.due("new " + asked[i] + ": end", x.state(1), 500 * rooms[i]);
            check.throwing("new " + asked[i] + ": append(1)", Check.STATE, () -> x.append(1));
        }
    }

    private void put() {
        LogDesk x = new LogDesk(3);
        check.due("put 8", x.put(0x8122334455667788L, 8), true);
        check.due("put 3", x.put(0xA1A2A3A4A5A6A7A8L, 3), true);
        check.due("put 1", x.put(-2L, 1), true);
        check.due("put 0", x.put(1, 0), false);
        check.due("put 9", x.put(1, 9), false);
        check.due("put -1", x.put(1, -1), false);
        check.due("put MIN", x.put(1, Integer.MIN_VALUE), false);
        check.due("put MAX", x.put(1, Integer.MAX_VALUE), false);
        check.due("in hand", x.state(4), 12);
        check.due("append", x.append(14), 15);
        x.next();
        int[] bytes = {0x81, 0x22, 0x33, 0x44, 0x55, 0x66, 0x77, 0x88, 0xA6, 0xA7, 0xA8, 0xFE};
        for (int i = 0; i < bytes.length; i++) {
            check.due("put: byteOf(" + i + ")", x.byteOf(i), bytes[i]);
        }
        x.fill(0, 595);
        check.due("put over 600", x.put(-1, 6), false);
        check.due("in hand", x.state(4), 595);
        check.due("put to 600", x.put(-1, 5), true);
        check.due("put at 600", x.put(-1, 1), false);
        check.due("in hand", x.state(4), 600);
    }

    private void fill() {
        LogDesk x = new LogDesk(3);
        check.due("fill 0", x.fill(1, 0), false);
        check.due("fill 601", x.fill(1, 601), false);
        check.due("fill -1", x.fill(1, -1), false);
        check.due("fill MIN", x.fill(1, Integer.MIN_VALUE), false);
        check.due("fill MAX", x.fill(1, Integer.MAX_VALUE), false);
        check.due("in hand", x.state(4), 0);
        check.due("fill 2", x.fill(0x1FF, 2), true);
        check.due("fill 597", x.fill(-128, 597), true);
        check.due("fill over 600", x.fill(3, 2), false);
        check.due("fill 600 over 600", x.fill(3, 600), false);
        check.due("fill to 600", x.fill(256 + 3, 1), true);
        check.due("fill at 600", x.fill(3, 1), false);
        check.due("append", x.append(1), 603);
        check.due("fill 600", x.fill(9, 600), true);
        x.next();
        check.due("fill: length()", x.length(), 600);
        check.due("fill: byteOf(0)", x.byteOf(0), 255);
        check.due("fill: byteOf(1)", x.byteOf(1), 255);
        check.due("fill: byteOf(2)", x.byteOf(2), 128);
        check.due("fill: byteOf(598)", x.byteOf(598), 128);
        check.due("fill: byteOf(599)", x.byteOf(599), 3);
    }

    private void append() {
        LogDesk x = new LogDesk(3);
        x.put(5, 2);
        int[] wrong = {0, 15, 16, -1, Integer.MIN_VALUE, Integer.MAX_VALUE};
        for (int kind : wrong) {
            check.throwing("append(" + kind + ")", Check.ARGUMENT, () -> x.append(kind));
        }
        check.states("append wrong", x, 0, 0, 0, 0, 2, 0, 0, -1);
        check.due("append(1)", x.append(1), 5);
        check.states("append", x, 0, 5, 0, 0, 0, 0, 0, -1);
        check.due("append(14) without bytes", x.append(14), 8);
        check.due("next()", x.next(), 1);
        check.due("length()", x.length(), 2);
        check.due("next()", x.next(), 14);
        check.due("length()", x.length(), 0);
    }

    private void appendToFullLog() {
        LogDesk x = new LogDesk(3);
        Logs.record(x, 603);
        Logs.record(x, 603);
        x.fill(4, 292);
        check.throwing("append to place 1500", Check.STATE, () -> x.append(2));
        check.throwing("kind before full", Check.ARGUMENT, () -> x.append(0));
        check.states("append full", x, 0, 1206, 0, 0, 292, 0, 0, -1);
        x.open();
        Logs.record(x, 603);
        Logs.record(x, 603);
        x.fill(4, 291);
        check.due("append to place 1499", x.append(2), 1500);
        check.throwing("append at 1500", Check.STATE, () -> x.append(2));
        check.due("flush(603)", x.flush(603), 2);
        x.checkpoint(0);
        check.throwing("append, begin still in block 0", Check.STATE, () -> x.append(2));
        x.checkpoint(603);
        check.due("append, begin in block 1", x.append(2), 1503);
        x.fill(1, 495);
        check.throwing("append to place 2000", Check.STATE, () -> x.append(2));
    }

    private void commit() {
        LogDesk x = new LogDesk(3);
        x.put(5, 2);
        int[] wrong = {-1, 6, 7, Integer.MIN_VALUE, Integer.MAX_VALUE};
        for (int s : wrong) {
            check.throwing("commit(" + s + ")", Check.ARGUMENT, () -> x.commit(s));
        }
        check.states("commit wrong", x, 0, 0, 0, 0, 2, 0, 0, -1);
        for (int s = 0; s < 6; s++) {
            check.due("commit(" + s + ")", x.commit(s), 4 * s + 4);
            check.due("waiting", x.state(5), s + 1);
        }
        check.throwing("commit(3) while it waits", Check.STATE, () -> x.commit(3));
        x.flush(24);
        check.throwing("commit(0) flushed but not told", Check.STATE, () -> x.commit(0));
        check.states("commit", x, 0, 24, 24, 1, 2, 6, 0, -1);
        check.due("told()", x.told(), 0);
        check.due("commit(0) anew", x.commit(0), 28);
        for (int s = 0; s < 6; s++) {
            check.due("next()", x.next(), 15);
            check.due("length()", x.length(), 1);
            check.due("byteOf(0)", x.byteOf(0), s);
        }
    }

    private void commitToFullLog() {
        LogDesk x = new LogDesk(3);
        Logs.record(x, 603);
        Logs.record(x, 603);
        Logs.record(x, 290);
        check.due("commit to place 1499", x.commit(1), 1500);
        check.throwing("commit at 1500", Check.STATE, () -> x.commit(2));
        check.throwing("session before full", Check.ARGUMENT, () -> x.commit(6));
        check.states("commit full", x, 0, 1500, 0, 0, 0, 1, 0, -1);
        x.open();
        Logs.record(x, 603);
        Logs.record(x, 603);
        Logs.record(x, 291);
        check.throwing("commit to place 1500", Check.STATE, () -> x.commit(2));
        check.due("waiting", x.state(5), 0);
    }

    private void flush() {
        LogDesk x = new LogDesk(4);
        Logs.record(x, 603);
        Logs.record(x, 603);
        int[] wrong = {-1, 1207, Integer.MIN_VALUE, Integer.MAX_VALUE};
        for (int place : wrong) {
            check.throwing("flush(" + place + ")", Check.ARGUMENT, () -> x.flush(place));
        }
        check.due("flush(0)", x.flush(0), 0);
        check.states("flush nothing", x, 0, 1206, 0, 0);
        check.due("flush(1)", x.flush(1), 1);
        check.states("flush one", x, 0, 1206, 500, 1);
        check.due("flush(500)", x.flush(500), 0);
        check.due("flush(1001)", x.flush(1001), 2);
        check.states("flush to the end", x, 0, 1206, 1206, 3);
        Logs.record(x, 3);
        check.due("flush(1206)", x.flush(1206), 0);
        check.due("flush(1207)", x.flush(1207), 1);
        check.states("flush anew", x, 0, 1209, 1209, 4);
    }

    private void flushAtBlockEdges() {
        LogDesk x = new LogDesk(5);
        Logs.record(x, 500);
        check.due("flush(500) at the block's end", x.flush(500), 1);
        check.states("at 500", x, 0, 500, 500, 1);
        check.due("flush(500) again", x.flush(500), 0);
        Logs.record(x, 499);
        check.due("flush(501)", x.flush(501), 1);
        check.states("at 999", x, 0, 999, 999, 2);
        Logs.record(x, 3);
        check.due("flush(1000)", x.flush(1000), 1);
        check.states("at 1000 inside a record", x, 0, 1002, 1000, 3);
        check.due("flush(1001)", x.flush(1001), 1);
        check.states("at 1002", x, 0, 1002, 1002, 4);
    }

    private void told() {
        LogDesk x = new LogDesk(5);
        check.due("told() of nobody", x.told(), -1);
        x.commit(4);
        x.commit(1);
        Logs.record(x, 500);
        x.commit(0);
        check.due("told() not flushed", x.told(), -1);
        x.flush(1);
        check.due("flushed", x.state(2), 500);
        check.due("told() first", x.told(), 4);
        check.due("waiting", x.state(5), 2);
        x.commit(4);
        check.due("told() second", x.told(), 1);
        check.due("told() third not flushed", x.told(), -1);
        check.due("waiting", x.state(5), 2);
        x.flush(x.state(1));
        check.due("told() third", x.told(), 0);
        check.due("told() fourth", x.told(), 4);
        check.due("told() nobody left", x.told(), -1);
        check.due("waiting", x.state(5), 0);
        Logs.record(x, 481);
        check.due("commit over the edge", x.commit(5), 1001);
        x.flush(1000);
        check.due("told() flushed to less than its end", x.told(), -1);
        x.flush(1001);
        check.due("told() flushed to its end", x.told(), 5);
    }

    private void toldBehindCheckpoint() {
        LogDesk x = new LogDesk(3);
        x.commit(3);
        x.commit(2);
        x.flush(8);
        x.checkpoint(8);
        check.due("waiting behind a checkpoint", x.state(5), 2);
        check.throwing("commit(3) behind a checkpoint", Check.STATE, () -> x.commit(3));
        check.due("told() behind a checkpoint", x.told(), 3);
        x.open();
        check.due("told() behind open()", x.told(), -1);
        check.due("commit(2) behind open()", x.commit(2), 12);
    }

    private void touch() {
        LogDesk x = new LogDesk(3);
        int[] wrong = {-1, 2048, Integer.MIN_VALUE, Integer.MAX_VALUE};
        for (int page : wrong) {
            check.due("touch(" + page + ")", x.touch(page), false);
        }
        check.due("touched", x.state(6), 0);
        int[] pages = {0, 2047, 63, 64, 31, 32, 127, 1024};
        for (int i = 0; i < pages.length; i++) {
            check.due("touch(" + pages[i] + ")", x.touch(pages[i]), true);
            check.due("touch(" + pages[i] + ") again", x.touch(pages[i]), false);
            check.due("touched", x.state(6), i + 1);
        }
        x.checkpoint(0);
        check.due("touch(0) behind a checkpoint", x.touch(0), false);
        x.open();
        check.due("touched behind open()", x.state(6), 0);
        check.due("touch(0) behind open()", x.touch(0), true);
        x.charge(0);
        check.throwing("checkpoint(0)", Check.POWER, () -> x.checkpoint(0));
        check.due("touch(0) behind a cut", x.touch(0), true);
    }

    private void mark() {
        LogDesk x = new LogDesk(3);
        Logs.record(x, 17);
        x.put(1, 1);
        x.commit(1);
        x.touch(5);
        x.touch(6);
        check.due("mark()", x.mark(), 21);
        check.states("mark", x, 0, 21, 0, 0, 1, 1, 0, -1);
        check.due("touch(5) behind mark()", x.touch(5), true);
    }

    private void checkpoint() {
        LogDesk x = new LogDesk(5);
        Logs.record(x, 10);
        Logs.record(x, 20);
        x.touch(9);
        x.commit(1);
        x.flush(34);
        Logs.record(x, 3);
        x.put(1, 3);
        x.next();
        check.due("checkpoint(10)", x.checkpoint(10), 4);
        check.states("checkpoint", x, 10, 37, 34, 2, 3, 1, 1, -1);
        check.due("next()", x.next(), 1 + 20 % 14);
        check.due("checkpoint where it begins", x.checkpoint(10), 4);
        check.states("checkpoint again", x, 10, 37, 34, 3, 3, 1, 1, -1);
        check.due("flush(5) before the beginning", x.flush(5), 0);
        check.due("checkpoint(34)", x.checkpoint(34), 4);
        check.due("open()", x.open(), 0);
        check.states("checkpoint at the flushed place", x, 34, 34, 34, 4, 0, 0, 0, -1);
    }

    private void checkpointFreeBlocks() {
        LogDesk x = new LogDesk(3);
        Logs.record(x, 499);
        check.due("end in block 0", x.checkpoint(0), 2);
        Logs.record(x, 3);
        x.flush(502);
        check.due("end in block 1", x.checkpoint(0), 1);
        check.due("begins at 499", x.checkpoint(499), 1);
        check.due("begins at 502", x.checkpoint(502), 2);
        Logs.record(x, 498);
        check.due("end at 1000, so in block 2", x.checkpoint(502), 1);
        x.flush(1000);
        check.due("begins at 1000", x.checkpoint(1000), 2);
        Logs.record(x, 500);
        Logs.record(x, 500);
        Logs.record(x, 500);
        check.due("end at 2500, N blocks on", x.checkpoint(1000), -1);
    }

    private void checkpointWrong() {
        LogDesk x = new LogDesk(3);
        Logs.record(x, 10);
        Logs.record(x, 10);
        x.flush(20);
        Logs.record(x, 10);
        x.next();
        x.charge(0);
        int[] wrong = {1, 9, 11, 30, 31, -1, Integer.MIN_VALUE, Integer.MAX_VALUE};
        for (int place : wrong) {
            check.throwing("checkpoint(" + place + ")", Check.ARGUMENT, () -> x.checkpoint(place));
        }
        check.states("checkpoint wrong", x, 0, 30, 20, 1, 0, 0, 0, 10);
        x.charge(1);
        x.checkpoint(10);
        check.throwing("checkpoint(0) before the beginning", Check.ARGUMENT, () -> x.checkpoint(0));
        x.open();
        check.throwing("checkpoint(30) of a lost record", Check.ARGUMENT, () -> x.checkpoint(30));
        check.due("checkpoint of the last", Check.answer(() -> x.checkpoint(20)).equals("throws.UnsupportedOperationException"), true);
    }

    private void open() {
        LogDesk x = new LogDesk(3);
        Logs.record(x, 10);
        x.commit(2);
        x.flush(14);
        Logs.record(x, 10);
        x.commit(3);
        x.put(1, 4);
        x.touch(7);
        x.next();
        check.due("open()", x.open(), 2);
        check.states("open", x, 0, 14, 14, 1, 0, 0, 0, -1);
        check.due("told()", x.told(), -1);
        check.due("touch(7)", x.touch(7), true);
        check.due("open() again", x.open(), 2);
        x.checkpoint(10);
        check.due("open() behind a checkpoint", x.open(), 1);
        check.states("open behind a checkpoint", x, 10, 14, 14, 2, 0, 0, 0, -1);
        check.due("append(7) has no bytes", x.append(7), 17);
        check.due("next()", x.next(), 15);
        check.due("next()", x.next(), 7);
        check.due("length()", x.length(), 0);
        x.charge(1);
        x.open();
        x.checkpoint(10);
        check.throwing("the charge stays behind open()", Check.POWER, () -> x.checkpoint(10));
    }

    private void openInsideRecord() {
        LogDesk x = new LogDesk(3);
        Logs.record(x, 100);
        Logs.record(x, 603);
        Logs.record(x, 603);
        x.flush(400);
        check.due("flushed inside a record", x.state(2), 500);
        check.due("open()", x.open(), 1);
        check.states("open inside a record", x, 0, 100, 100, 1);
        Logs.record(x, 401);
        check.due("flush(100)", x.flush(100), 0);
        check.due("flush(101)", x.flush(101), 1);
        check.states("flushed but for one place", x, 0, 501, 500, 2);
        check.due("open()", x.open(), 1);
        Logs.record(x, 400);
        Logs.record(x, 3);
        x.flush(101);
        check.due("open() at the block's end", x.open(), 2);
        check.states("open at the block's end", x, 0, 500, 500, 3);
        x.checkpoint(500);
        Logs.record(x, 603);
        check.due("open() without a whole record", x.open(), 0);
        check.states("open without a whole record", x, 500, 500, 500, 4);
    }

    private void next() {
        LogDesk x = new LogDesk(3);
        check.throwing("next() of nothing", Check.ELEMENT, x::next);
        Logs.record(x, 13);
        check.due("next() unflushed", x.next(), 14);
        check.throwing("next() at the end", Check.ELEMENT, x::next);
        check.due("the record stays read: state(7)", x.state(7), 13);
        check.due("the record stays read: length()", x.length(), 10);
        check.due("the record stays read: byteOf(9)", x.byteOf(9), 13);
        x.commit(5);
        check.due("the record stays read", x.state(7), 13);
        check.due("next() of a new record", x.next(), 15);
        check.due("state(7)", x.state(7), 17);
    }

    private void nextStartsAnew() {
        LogDesk x = new LogDesk(3);
        Logs.record(x, 4);
        Logs.record(x, 5);
        x.flush(9);
        x.next();
        x.next();
        x.open();
        check.due("length() behind open()", x.length(), -1);
        check.due("next() behind open()", x.next(), 5);
        x.checkpoint(0);
        check.due("byteOf(0) behind a checkpoint", x.byteOf(0), -1);
        check.due("next() behind a checkpoint", x.next(), 5);
        check.throwing("checkpoint(1)", Check.ARGUMENT, () -> x.checkpoint(1));
        check.due("next() behind a wrong checkpoint", x.next(), 6);
        x.charge(0);
        check.throwing("checkpoint(4)", Check.POWER, () -> x.checkpoint(4));
        check.due("state(7) behind a cut", x.state(7), -1);
        check.due("next() behind a cut", x.next(), 5);
        x.checkpoint(4);
        check.due("next() at the new beginning", x.next(), 6);
    }

    private void length() {
        LogDesk x = new LogDesk(32);
        int[] lengths = {0, 1, 255, 256, 257, 511, 512, 599, 600};
        for (int bytes : lengths) {
            Logs.record(x, bytes + 3);
        }
        check.due("length() of none", x.length(), -1);
        for (int bytes : lengths) {
            x.next();
            check.due("length()", x.length(), bytes);
        }
    }

    private void byteOf() {
        LogDesk x = new LogDesk(3);
        Logs.record(x, 490);
        for (int i = 0; i < 20; i++) {
            x.put(200 + i, 1);
        }
        x.append(9);
        x.next();
        x.next();
        for (int i = 0; i < 20; i++) {
            check.due("byteOf(" + i + ") over the edge", x.byteOf(i), 200 + i);
        }
        int[] wrong = {-1, -3, 20, 600, Integer.MIN_VALUE, Integer.MAX_VALUE};
        for (int i : wrong) {
            check.due("byteOf(" + i + ")", x.byteOf(i), -1);
        }
        x.append(1);
        check.throwing("next()", Check.ELEMENT, () -> { x.next(); x.next(); });
        check.due("byteOf(0) without bytes", x.byteOf(0), -1);
    }

    private void charge() {
        LogDesk x = new LogDesk(3);
        int[] wrong = {-1, 1000, Integer.MIN_VALUE, Integer.MAX_VALUE};
        for (int n : wrong) {
            check.throwing("charge(" + n + ")", Check.ARGUMENT, () -> x.charge(n));
        }
        check.due("no charge: checkpoint(0)", x.checkpoint(0), 2);
        x.charge(999);
        x.charge(2);
        check.throwing("charge(1000)", Check.ARGUMENT, () -> x.charge(1000));
        check.due("first of 2", x.checkpoint(0), 2);
        Logs.record(x, 5);
        check.due("second of 2", x.flush(5), 1);
        check.due("nothing to write", x.flush(5), 0);
        check.throwing("third of 2", Check.POWER, () -> x.checkpoint(0));
        check.due("the charge is gone: checkpoint(0)", x.checkpoint(0), 2);
        check.states("charge", x, 0, 5, 5, 4);
        x.charge(0);
        check.throwing("charge 0, wrong place", Check.ARGUMENT, () -> x.flush(6));
        x.charge(3);
        check.due("a new charge counts", x.checkpoint(5), 2);
        x.charge(400);
        for (int i = 0; i < 400; i++) {
            x.checkpoint(5);
        }
        check.throwing("block 401 of 400", Check.POWER, () -> x.checkpoint(5));
    }

    private void cutInsideFlush() {
        LogDesk x = new LogDesk(5);
        Logs.record(x, 300);
        x.commit(1);
        Logs.record(x, 500);
        Logs.record(x, 600);
        x.put(1, 1);
        x.touch(1);
        x.next();
        x.charge(2);
        check.throwing("flush(1404)", Check.POWER, () -> x.flush(1404));
        check.states("cut", x, 0, 804, 804, 2, 0, 0, 0, -1);
        check.due("open()", x.open(), 3);
        check.due("told()", x.told(), -1);
        Logs.record(x, 600);
        check.due("flush(1404) without a charge", x.flush(1404), 2);
        check.states("behind the cut", x, 0, 1404, 1404, 4);
        x.charge(3);
        x.open();
        check.due("flush(1404)", x.flush(1404), 0);
    }

    private void cutAtCheckpoint() {
        LogDesk x = new LogDesk(5);
        Logs.record(x, 300);
        x.commit(1);
        x.flush(304);
        Logs.record(x, 300);
        x.put(1, 1);
        x.touch(1);
        x.next();
        x.charge(0);
        check.throwing("checkpoint(300)", Check.POWER, () -> x.checkpoint(300));
        check.states("cut", x, 0, 304, 304, 1, 0, 0, 0, -1);
        check.due("checkpoint(300) without a charge", x.checkpoint(300), 4);
    }

    private void state() {
        LogDesk x = new LogDesk(3);
        Logs.record(x, 10);
        Logs.record(x, 20);
        x.flush(30);
        x.checkpoint(10);
        x.commit(0);
        x.commit(1);
        x.put(1, 7);
        for (int page = 0; page < 5; page++) {
            x.touch(page);
        }
        x.next();
        x.next();
        check.states("all", x, 10, 38, 30, 2, 7, 2, 5, 34);
        int[] wrong = {-1, 8, 9, Integer.MIN_VALUE, Integer.MAX_VALUE};
        for (int what : wrong) {
            check.due("state(" + what + ")", x.state(what), -1);
        }
    }

    /** The blocks are used again and again, and the bytes stay right. */
    private void ringGoesRound() {
        int[] rooms = {3, 31, 32};
        for (int room : rooms) {
            LogDesk x = new LogDesk(room);
            int place = 0;
            for (int round = 0; round < 70; round++) {
                x.fill(round, 490);
                place += 493;
                check.due("round " + round + ": append", x.append(1 + round % 14), place);
                if (round > 0) {
                    x.flush(place);
                    x.checkpoint(place - 493);
                    x.next();
                    check.due("round " + round + ": byteOf(0)", x.byteOf(0), round);
                    check.due("round " + round + ": byteOf(489)", x.byteOf(489), round);
                }
            }
        }
    }

    /** All of the room is used, and no block is in another's way. */
    private void wholeRoom() {
        LogDesk x = new LogDesk(32);
        for (int block = 0; block < 32; block++) {
            x.fill(block, 497);
            check.due("block " + block + ": append", x.append(1), 500 * block + 500);
        }
        check.due("flush of the whole room", x.flush(16000), 32);
        check.due("open() of the whole room", x.open(), 32);
        for (int block = 0; block < 32; block++) {
            x.next();
            check.due("block " + block + ": byteOf(0)", x.byteOf(0), block);
            check.due("block " + block + ": byteOf(496)", x.byteOf(496), block);
        }
    }

    /** Answers are free there, but places must not wrap round, nor may the machine throw. */
    private void farBeyondCalls() {
        LogDesk x = new LogDesk(3);
        for (int i = 0; i < 3700000; i++) {
            x.fill(i, 600);
            String answer = Check.answer(() -> x.append(1));
            if (answer.equals("throws.IllegalStateException")) {
                break;
            }
            x.flush(x.state(1));
            x.checkpoint(x.state(1));
        }
        check.due("far beyond 512 calls: end >= 0", x.state(1) >= 0, true);
        check.due("far beyond 512 calls: open()", x.open(), 0);
        check.throwing("far beyond 512 calls: next()", Check.ELEMENT, x::next);
    }
}

/** The boundary sentences of "What it is" and "Terms", one test each, on both sides of the boundary. */
public final class TermsBoundaryTest {
    private static final int[] ROOMS = {3, 4, 31, 32};

    private final Check check = new Check("TermsBoundaryTest");

    public static void main(String[] args) {
        TermsBoundaryTest test = new TermsBoundaryTest();
        test.the512thCall();
        test.kindsOfRecords();
        test.bytesOfRecords();
        test.threePlacesMore();
        test.placesFromZero();
        test.handAtFirst();
        test.blocksOf500();
        test.fullForRecord();
        test.fullByBlockOfBeginning();
        test.flushedToLess();
        test.firstBlockWritten();
        test.lastBlockWritten();
        test.allThatIsInBlock();
        test.flushedBehindEachBlock();
        test.sessionWaitsForFlush();
        test.sessionWaitsForBeingTold();
        test.readingFromTheBeginning();
        test.readingStartsAnew();
        test.readingGoesOn();
        test.chargeForFlush();
        test.chargeForCheckpoint();
        test.chargeWithNothingToWrite();
        test.cutIsAsOpen();
        test.noChargeAnyMore();
        test.noChargeAtFirst();
        test.memoryOfItsOwn();
        test.wholeRing();
        test.headOverTheRingsEdge();
        test.bytesOverTheRingsEdge();
        test.openOverTheRingsEdge();
        test.check.end();
    }

    private void the512thCall() {
        check.about("An object is used for at most 512 calls after it has been made");
        LogDesk x = new LogDesk(3);
        int end = 0;
        for (int round = 0; round < 102; round++) {
            check.due("fill, call " + (5 * round + 1), x.fill(round, 600), true);
            end += 603;
            check.due("append, call " + (5 * round + 2), x.append(1), end);
            int blocks = (end - 1) / 500 - (end - 603) / 500 + 1;
            check.due("flush, call " + (5 * round + 3), x.flush(end), blocks);
            check.due("checkpoint, call " + (5 * round + 4), x.checkpoint(end), 2);
            check.due("state, call " + (5 * round + 5), x.state(1), end);
        }
        check.throwing("next, call 511", Check.ELEMENT, x::next);
        check.due("open, call 512", x.open(), 0);
    }

    private void kindsOfRecords() {
        check.about("A RECORD has a KIND, 1 .. 15");
        LogDesk x = new LogDesk(3);
        for (int kind = 1; kind <= 14; kind++) {
            check.due("append(" + kind + ")", x.append(kind), 3 * kind);
        }
        x.commit(0);
        for (int kind = 1; kind <= 15; kind++) {
            check.due("next()", x.next(), kind);
        }
        check.throwing("append(0)", Check.ARGUMENT, () -> x.append(0));
        check.throwing("append(16)", Check.ARGUMENT, () -> x.append(16));
    }

    private void bytesOfRecords() {
        check.about("A RECORD has .. 0 .. 600 BYTES");
        int[] lengths = {0, 1, 255, 256, 599, 600};
        for (int bytes : lengths) {
            LogDesk x = new LogDesk(3);
            check.due("fill " + bytes, x.fill(1, bytes), bytes > 0);
            check.due("one byte more behind " + bytes, x.put(2, 1), bytes < 600);
            int most = Math.min(bytes + 1, 600);
            check.due("in hand", x.state(4), most);
            x.append(1);
            x.next();
            check.due("length()", x.length(), most);
        }
    }

    private void threePlacesMore() {
        check.about("In the log it takes three more");
        check.due("append of no bytes", new LogDesk(3).append(1), 3);
        LogDesk one = new LogDesk(3);
        one.put(1, 1);
        check.due("append of one byte", one.append(1), 4);
        check.due("commit", new LogDesk(3).commit(0), 4);
        LogDesk most = new LogDesk(3);
        most.fill(1, 600);
        check.due("append of 600 bytes", most.append(1), 603);
    }

    private void placesFromZero() {
        check.about("PLACES are counted from 0: the log BEGINS at a place, at first 0, and ENDS at one, at first 0");
        LogDesk x = new LogDesk(3);
        check.states("new", x, 0, 0, 0);
        check.throwing("checkpoint(-1)", Check.ARGUMENT, () -> x.checkpoint(-1));
        check.due("checkpoint(0)", x.checkpoint(0), 2);
        check.throwing("checkpoint(1)", Check.ARGUMENT, () -> x.checkpoint(1));
        check.due("mark()", x.mark(), 0);
    }

    private void handAtFirst() {
        check.about("One record is IN HAND, at first without bytes");
        LogDesk x = new LogDesk(3);
        check.due("in hand", x.state(4), 0);
        x.append(7);
        check.due("next()", x.next(), 7);
        check.due("length()", x.length(), 0);
        check.due("byteOf(0)", x.byteOf(0), -1);
    }

    private void blocksOf500() {
        check.about("BLOCKS 0, 1, .. of 500 places each (block b has 500 * b .. 500 * b + 499)");
        for (int block = 1; block < 31; block++) {
            int first = 500 * block;
            check.due("last place " + (first - 1), Logs.endingAt(32, first).flush(first), block);
            check.due("last place " + first, Logs.endingAt(32, first + 1).flush(first + 1), block + 1);
            check.due("ends at " + (first - 1), Logs.endingAt(32, first - 1).checkpoint(0), 32 - block);
            check.due("ends at " + first, Logs.endingAt(32, first).checkpoint(0), 31 - block);
        }
    }

    private void fullForRecord() {
        check.about("FULL for a record if its last place would be in a block that is N or more behind");
        for (int room : ROOMS) {
            fullFrom(0, room, 500 * room);
        }
    }

    private void fullByBlockOfBeginning() {
        check.about("N or more behind the one in which it begins");
        for (int room : ROOMS) {
            fullFrom(499, room, 500 * room);
            fullFrom(500, room, 500 * room + 500);
            fullFrom(999, room, 500 * room + 500);
            fullFrom(1000, room, 500 * room + 1000);
            fullFrom(15999, room, 500 * room + 15500);
            fullFrom(16000, room, 500 * room + 16000);
        }
    }

    /** A log of that room, begun there, has just the places before the limit. */
    private void fullFrom(int begin, int room, int limit) {
        String when = "N " + room + ", begun at " + begin + ": ";
        LogDesk x = Logs.beginningAt(room, begin);
        Logs.extend(x, limit - 10);
        x.fill(1, 8);
        check.throwing(when + "append to " + (limit + 1), Check.STATE, () -> x.append(1));
        check.throwing(when + "append to " + (limit + 1) + " again", Check.STATE, () -> x.append(1));
        check.due(when + "end", x.state(1), limit - 10);
        LogDesk y = Logs.beginningAt(room, begin);
        Logs.extend(y, limit - 10);
        y.fill(1, 7);
        check.due(when + "append to the limit", y.append(1), limit);
        check.throwing(when + "append at the limit", Check.STATE, () -> y.append(1));
        check.throwing(when + "commit at the limit", Check.STATE, () -> y.commit(1));
        LogDesk z = Logs.beginningAt(room, begin);
        Logs.extend(z, limit - 603);
        z.fill(1, 600);
        check.due(when + "600 bytes to the limit", z.append(1), limit);
        LogDesk over = Logs.beginningAt(room, begin);
        Logs.extend(over, limit - 602);
        over.fill(1, 600);
        check.throwing(when + "600 bytes over the limit", Check.STATE, () -> over.append(1));
    }

    private void flushedToLess() {
        check.about("FLUSHING to a place p: if it is flushed to less");
        LogDesk x = Logs.flushedAt(3, 200);
        Logs.record(x, 100);
        check.due("flush(199)", x.flush(199), 0);
        check.due("flush(200)", x.flush(200), 0);
        check.states("not written", x, 0, 300, 200, 1);
        check.due("flush(201)", x.flush(201), 1);
        check.states("written", x, 0, 300, 300, 2);
    }

    private void firstBlockWritten() {
        check.about("the blocks are written .. from the one that has the place to which it is flushed");
        int[] ends = {498, 499, 500, 501, 999, 1000};
        int[] blocks = {2, 2, 1, 1, 2, 1};
        for (int i = 0; i < ends.length; i++) {
            LogDesk x = Logs.flushedAt(4, ends[i]);
            check.due("flushed to " + ends[i], x.state(2), ends[i]);
            Logs.record(x, 4);
            check.due("flush from " + ends[i], x.flush(ends[i] + 4), blocks[i]);
        }
    }

    private void lastBlockWritten() {
        check.about("up to the one that has p - 1");
        int[] places = {1, 499, 500, 501, 999, 1000, 1001, 1499, 1500, 1501, 1600};
        int[] blocks = {1, 1, 1, 2, 2, 2, 3, 3, 3, 4, 4};
        for (int i = 0; i < places.length; i++) {
            LogDesk x = Logs.endingAt(4, 1600);
            check.due("flush(" + places[i] + ")", x.flush(places[i]), blocks[i]);
            check.states("flush(" + places[i] + ")", x, 0, 1600, Math.min(1600, 500 * blocks[i]), blocks[i]);
        }
    }

    private void allThatIsInBlock() {
        check.about("each with all that is in it by then");
        LogDesk x = Logs.endingAt(4, 100);
        Logs.record(x, 50);
        check.due("flush(100)", x.flush(100), 1);
        check.due("with all by then", x.state(2), 150);
        Logs.record(x, 50);
        check.due("what came later is not flushed", x.state(2), 150);
        check.due("open()", x.open(), 2);
        check.due("end", x.state(1), 150);
    }

    private void flushedBehindEachBlock() {
        check.about("behind each it is flushed to the end of that block, or to the log's end, if that is in it");
        int[] ends = {3, 498, 499, 500, 501, 502};
        int[] flushed = {3, 498, 499, 500, 500, 500};
        for (int i = 0; i < ends.length; i++) {
            LogDesk x = Logs.endingAt(4, ends[i]);
            check.due("flush(1)", x.flush(1), 1);
            check.due("ends at " + ends[i] + ": flushed to", x.state(2), flushed[i]);
        }
        LogDesk two = Logs.endingAt(4, 999);
        check.due("flush(501)", two.flush(501), 2);
        check.due("flushed to", two.state(2), 999);
        LogDesk cut = Logs.endingAt(4, 400);
        Logs.record(cut, 100);
        Logs.record(cut, 501);
        cut.charge(1);
        check.throwing("flush(1001)", Check.POWER, () -> cut.flush(1001));
        check.states("behind the first block", cut, 0, 500, 500, 1);
    }

    private void sessionWaitsForFlush() {
        check.about("WAITS until the log is flushed to the end of its commit's record");
        for (int before = 495; before <= 503; before++) {
            LogDesk x = Logs.endingAt(4, before);
            int end = x.commit(2);
            x.flush(before);
            boolean reached = before <= 496 || before > 500;
            check.due("commit to " + end + ": flushed to it", x.state(2) >= end, reached);
            check.due("commit to " + end + ": told()", x.told(), reached ? 2 : -1);
            check.due("commit to " + end + ": waiting", x.state(5), reached ? 0 : 1);
            x.flush(end);
            check.due("commit to " + end + ": told() later", x.told(), reached ? -1 : 2);
        }
    }

    private void sessionWaitsForBeingTold() {
        check.about("WAITS until .. and that was told");
        LogDesk x = new LogDesk(3);
        x.commit(5);
        x.flush(4);
        check.due("waiting, flushed", x.state(5), 1);
        check.throwing("commit(5) untold", Check.STATE, () -> x.commit(5));
        check.due("told()", x.told(), 5);
        check.due("waiting, told", x.state(5), 0);
        check.due("commit(5) told", x.commit(5), 8);
        check.due("told() of the new commit", x.told(), -1);
    }

    private void readingFromTheBeginning() {
        check.about("READING goes from record to record, from the beginning on");
        LogDesk x = new LogDesk(3);
        x.append(1);
        x.append(2);
        x.append(3);
        x.flush(9);
        for (int kind = 1; kind <= 3; kind++) {
            check.due("next()", x.next(), kind);
            check.due("state(7)", x.state(7), 3 * kind);
        }
        x.checkpoint(3);
        check.due("next() at the new beginning", x.next(), 2);
        x.checkpoint(9);
        check.throwing("next() behind the last", Check.ELEMENT, x::next);
    }

    private LogDesk withTwoRead() {
        LogDesk x = new LogDesk(3);
        x.append(1);
        x.append(2);
        x.append(3);
        x.flush(9);
        x.next();
        x.next();
        return x;
    }

    private void startsAnew(String when, LogDesk x) {
        check.due("length() behind " + when, x.length(), -1);
        check.due("byteOf(0) behind " + when, x.byteOf(0), -1);
        check.due("state(7) behind " + when, x.state(7), -1);
        check.due("next() behind " + when, x.next(), 1);
    }

    private void readingStartsAnew() {
        check.about("it starts anew behind open(), a cut of power, and a checkpoint");
        LogDesk opened = withTwoRead();
        opened.open();
        startsAnew("open()", opened);
        LogDesk moved = withTwoRead();
        moved.checkpoint(0);
        startsAnew("a checkpoint", moved);
        LogDesk cutAtCheckpoint = withTwoRead();
        cutAtCheckpoint.charge(0);
        check.throwing("checkpoint(6)", Check.POWER, () -> cutAtCheckpoint.checkpoint(6));
        startsAnew("a cut at a checkpoint", cutAtCheckpoint);
        LogDesk cutAtFlush = withTwoRead();
        cutAtFlush.append(4);
        cutAtFlush.charge(0);
        check.throwing("flush(12)", Check.POWER, () -> cutAtFlush.flush(12));
        startsAnew("a cut at a flush", cutAtFlush);
    }

    private void readingGoesOn() {
        check.about("it starts anew behind open(), a cut of power, and a checkpoint: and behind nothing else");
        LogDesk x = withTwoRead();
        x.put(9, 1);
        x.append(4);
        x.commit(0);
        x.flush(17);
        x.told();
        x.touch(1);
        x.mark();
        x.charge(5);
        check.throwing("checkpoint(1)", Check.ARGUMENT, () -> x.checkpoint(1));
        check.throwing("flush(18)", Check.ARGUMENT, () -> x.flush(18));
        check.due("state(7)", x.state(7), 6);
        check.due("length()", x.length(), 0);
        check.due("next()", x.next(), 3);
        check.due("next()", x.next(), 4);
        check.due("next()", x.next(), 15);
        check.throwing("next() at the end", Check.ELEMENT, x::next);
        x.append(6);
        check.due("next() of what came later", x.next(), 6);
    }

    private void chargeForFlush() {
        check.about("after charge(n) n more blocks can be written; the next one is not, the power goes");
        for (int n = 0; n <= 5; n++) {
            LogDesk x = new LogDesk(5);
            for (int block = 0; block < 4; block++) {
                Logs.record(x, 500);
            }
            x.charge(n);
            boolean enough = n >= 4;
            check.due("charge " + n + ": flush(2000)", Check.answer(() -> x.flush(2000)),
                enough ? "4" : "throws.UnsupportedOperationException");
            int kept = enough ? 2000 : 500 * n;
            check.states("charge " + n, x, 0, kept, kept, Math.min(n, 4));
        }
        LogDesk used = Logs.endingAt(5, 1300);
        used.charge(3);
        check.due("just enough", used.flush(1300), 3);
        check.throwing("and none more", Check.POWER, () -> used.checkpoint(0));
    }

    private void chargeForCheckpoint() {
        check.about("(a checkpoint writes one, too)");
        LogDesk x = Logs.flushedAt(3, 10);
        x.charge(1);
        check.due("checkpoint(10) with 1", x.checkpoint(10), 2);
        check.due("written", x.state(3), 2);
        Logs.record(x, 10);
        check.throwing("flush(20) with 0", Check.POWER, () -> x.flush(20));
        check.states("cut", x, 10, 10, 10, 2);
        LogDesk y = Logs.flushedAt(3, 10);
        y.charge(0);
        check.throwing("checkpoint(10) with 0", Check.POWER, () -> y.checkpoint(10));
        check.states("cut", y, 0, 10, 10, 1);
        LogDesk z = Logs.endingAt(3, 10);
        z.charge(1);
        check.due("flush(10) with 1", z.flush(10), 1);
        check.throwing("checkpoint(10) with 0 left", Check.POWER, () -> z.checkpoint(10));
        check.states("cut", z, 0, 10, 10, 1);
    }

    private void chargeWithNothingToWrite() {
        check.about("the next one is not [written]: a flush that writes none does not cut the power");
        LogDesk x = Logs.flushedAt(3, 10);
        x.put(1, 2);
        Logs.record(x, 10);
        x.put(1, 2);
        x.charge(0);
        check.due("flush(0)", x.flush(0), 0);
        check.due("flush(10)", x.flush(10), 0);
        check.states("no cut", x, 0, 22, 10, 1, 2);
        check.throwing("flush(11)", Check.POWER, () -> x.flush(11));
        check.states("cut", x, 0, 10, 10, 1, 0);
    }

    private void cutIsAsOpen() {
        check.about("all is as behind open() then");
        for (int n = 0; n < 3; n++) {
            LogDesk cut = busy();
            cut.charge(n);
            check.throwing("charge " + n + ": flush", Check.POWER, () -> cut.flush(1204));
            LogDesk opened = busy();
            opened.flush(500 * n);
            opened.open();
            check.due("flush cut behind " + n, Look.at(cut), Look.at(opened));
            LogDesk cutAtCheckpoint = busy();
            cutAtCheckpoint.flush(500 * n);
            cutAtCheckpoint.charge(0);
            check.throwing("charge 0: checkpoint", Check.POWER, () -> cutAtCheckpoint.checkpoint(0));
            LogDesk openedAlso = busy();
            openedAlso.flush(500 * n);
            openedAlso.open();
            check.due("checkpoint cut behind " + n, Look.at(cutAtCheckpoint), Look.at(openedAlso));
        }
    }

    /** Three blocks of records, one of which ends at an edge, and something of all else. */
    private static LogDesk busy() {
        LogDesk x = Logs.endingAt(4, 300);
        x.commit(3);
        Logs.extend(x, 500);
        x.commit(1);
        Logs.extend(x, 1204);
        x.put(0x0102030405060708L, 8);
        x.touch(0);
        x.touch(2047);
        x.next();
        return x;
    }

    private void noChargeAnyMore() {
        check.about("and there is no charge any more (all can be written");
        LogDesk x = new LogDesk(3);
        x.charge(0);
        check.throwing("checkpoint(0)", Check.POWER, () -> x.checkpoint(0));
        for (int i = 0; i < 400; i++) {
            check.due("checkpoint(0)", x.checkpoint(0), 2);
        }
        check.due("written", x.state(3), 400);
        LogDesk y = Logs.endingAt(5, 2000);
        y.charge(1);
        check.throwing("flush(2000)", Check.POWER, () -> y.flush(2000));
        Logs.extend(y, 2400);
        check.due("flush(2400)", y.flush(2400), 5);
        y.charge(1);
        check.due("a new charge: checkpoint", y.checkpoint(0), 0);
        check.throwing("a new charge: checkpoint again", Check.POWER, () -> y.checkpoint(0));
    }

    private void noChargeAtFirst() {
        check.about("(all can be written, as at first)");
        LogDesk x = new LogDesk(3);
        for (int i = 1; i <= 500; i++) {
            check.due("checkpoint(0), the " + i + "th", x.checkpoint(0), 2);
        }
        check.due("written", x.state(3), 500);
    }

    private void memoryOfItsOwn() {
        check.about("All memory is the class's own");
        LogDesk x = new LogDesk(3);
        LogDesk y = new LogDesk(3);
        x.put(1, 1);
        y.put(2, 1);
        x.touch(5);
        check.due("in hand", x.state(4), 1);
        check.due("touch(5) of the other", y.touch(5), true);
        x.append(1);
        y.append(2);
        x.commit(4);
        check.due("waiting in the other", y.state(5), 0);
        x.charge(0);
        check.due("the other's charge", y.flush(4), 1);
        check.due("next()", x.next(), 1);
        check.due("byteOf(0)", x.byteOf(0), 1);
        check.due("next() of the other", y.next(), 2);
        check.due("byteOf(0) of the other", y.byteOf(0), 2);
    }

    private void wholeRing() {
        check.about("There is room for N blocks at a time: the last place is used, and the first is not harmed");
        int[] begins = {0, 500, 15500, 16000};
        for (int room : ROOMS) {
            for (int begin : begins) {
                LogDesk x = Logs.beginningAt(room, begin);
                wholeRing(x, begin + 500 * room - 8);
                x.put(0x99, 1);
                check.due("append to the limit", x.append(12), begin + 500 * room);
                check.throwing("append at the limit", Check.STATE, () -> x.append(1));
                check.throwing("commit at the limit", Check.STATE, () -> x.commit(1));
                int records = readWholeRing(x, begin + 500 * room - 8) + 1;
                check.due("next()", x.next(), 12);
                check.due("byteOf(0)", x.byteOf(0), 0x99);
                check.throwing("next() at the limit", Check.ELEMENT, x::next);
                check.due("flush to the limit", x.flush(begin + 500 * room), room);
                check.due("open()", x.open(), records);
                check.due("end", x.state(1), begin + 500 * room);
                readWholeRing(x, begin + 500 * room - 8);
            }
        }
    }

    /** A record of kind 13, others up to a place, and a commit there. */
    private static void wholeRing(LogDesk x, int place) {
        x.put(0x77, 1);
        x.append(13);
        Logs.extend(x, place);
        x.commit(5);
    }

    /** How many records were read, up to the commit. */
    private int readWholeRing(LogDesk x, int place) {
        check.due("next()", x.next(), 13);
        check.due("length()", x.length(), 1);
        check.due("byteOf(0)", x.byteOf(0), 0x77);
        int records = 2;
        while (x.state(7) < place) {
            x.next();
            records++;
        }
        check.due("state(7)", x.state(7), place);
        check.due("next()", x.next(), 15);
        check.due("byteOf(0)", x.byteOf(0), 5);
        return records;
    }

    private void headOverTheRingsEdge() {
        check.about("a ring of blocks: a record's head lies over the end of the ring");
        for (int room : ROOMS) {
            int edge = 500 * room;
            for (int before = 1; before <= 4; before++) {
                LogDesk x = Logs.beginningAt(room, edge - before);
                x.fill(0xC3, 457);
                check.due("append", x.append(13), edge - before + 460);
                x.append(2);
                check.due("next()", x.next(), 13);
                check.due("length()", x.length(), 457);
                check.due("byteOf(0)", x.byteOf(0), 0xC3);
                check.due("byteOf(456)", x.byteOf(456), 0xC3);
                check.due("state(7)", x.state(7), edge - before + 460);
                check.due("next()", x.next(), 2);
                check.due("length()", x.length(), 0);
            }
        }
    }

    private void bytesOverTheRingsEdge() {
        check.about("a ring of blocks: the log is as long as the ring, and goes on at its start");
        for (int room : ROOMS) {
            LogDesk x = Logs.beginningAt(room, 499);
            Logs.record(x, 3);
            x.flush(502);
            x.checkpoint(502);
            int end = 502;
            int count = 0;
            while (end + 400 <= 500 * room + 500) {
                x.fill(count, 397);
                end = x.append(1 + count % 14);
                count++;
            }
            x.fill(0xFF, 498);
            check.throwing("append over the room", Check.STATE, () -> x.append(1));
            for (int i = 0; i < count; i++) {
                check.due("N " + room + ": next()", x.next(), 1 + i % 14);
                check.due("N " + room + ": byteOf(0)", x.byteOf(0), i);
                check.due("N " + room + ": byteOf(396)", x.byteOf(396), i);
            }
            check.throwing("next() behind the last", Check.ELEMENT, x::next);
        }
    }

    private void openOverTheRingsEdge() {
        check.about("a ring of blocks: what was flushed whole is there behind a cut, over the end of the ring too");
        for (int room : ROOMS) {
            int edge = 500 * room;
            LogDesk x = Logs.beginningAt(room, edge - 300);
            x.fill(7, 297);
            check.due("to the edge", x.append(7), edge);
            x.fill(8, 497);
            check.due("a block behind it", x.append(8), edge + 500);
            x.fill(9, 100);
            x.append(9);
            x.charge(2);
            check.throwing("flush", Check.POWER, () -> x.flush(edge + 501));
            check.states("cut", x, edge - 300, edge + 500, edge + 500);
            check.due("open()", x.open(), 2);
            x.next();
            check.due("byteOf(296)", x.byteOf(296), 7);
            check.due("next()", x.next(), 8);
            check.due("byteOf(0)", x.byteOf(0), 8);
            check.throwing("next()", Check.ELEMENT, x::next);
        }
    }
}

import java.util.Arrays;
import java.util.NoSuchElementException;

/**
 * A log of records in a ring of blocks: records are flushed block by block,
 * sessions wait for their commits, a checkpoint moves the beginning on, and
 * behind a cut of power just the records are there that were flushed whole.
 */
public final class LogDesk {
    private static final int BLOCK_PLACES = 500;
    private static final int FEWEST_BLOCKS = 3;
    private static final int MOST_BLOCKS = 32;
    private static final int HEAD_PLACES = 3;
    private static final int MOST_BYTES = 600;
    private static final int MOST_PUT = 8;
    private static final int COMMIT_KIND = 15;
    private static final int COMMIT_BYTES = 1;
    private static final int SESSIONS = 6;
    private static final int PAGES = 2048;
    private static final int MOST_CHARGE = 999;
    private static final int NONE = -1;
    /** No more records fit into the blocks, as each takes three places or more. */
    private static final int MOST_RECORDS = MOST_BLOCKS * BLOCK_PLACES / HEAD_PLACES + 1;
    /** Far beyond what 512 calls reach: it keeps places from wrapping round in longer runs. */
    private static final int LAST_PLACE = 1000000000;

    private final int room;
    private final Ring ring = new Ring();
    private final Hand hand = new Hand();
    private final Waiting waiting = new Waiting();
    private final Pages pages = new Pages();
    private final Disk disk = new Disk();
    private int begin;
    private int end;
    private int flushed;
    /** Where the record that was read starts. */
    private int readStart;

    public LogDesk(int blocks) {
        room = blocks >= FEWEST_BLOCKS && blocks <= MOST_BLOCKS ? blocks : MOST_BLOCKS;
        readStart = NONE;
    }

    public boolean put(long v, int n) {
        if (n < 1 || n > MOST_PUT || !hand.hasRoomFor(n)) {
            return false;
        }
        for (int i = n - 1; i >= 0; i--) {
            hand.add((int) (v >>> (8 * i)));
        }
        return true;
    }

    public boolean fill(int v, int n) {
        if (n < 1 || n > MOST_BYTES || !hand.hasRoomFor(n)) {
            return false;
        }
        for (int i = 0; i < n; i++) {
            hand.add(v);
        }
        return true;
    }

    public int append(int kind) throws IllegalArgumentException, IllegalStateException {
        if (kind < 1 || kind >= COMMIT_KIND) {
            throw new IllegalArgumentException("the kind is not 1 .. 14");
        }
        int bytes = hand.count();
        if (isFullFor(bytes)) {
            throw new IllegalStateException("the log is full");
        }
        int place = writeHead(kind, bytes);
        for (int i = 0; i < bytes; i++) {
            ring.set(place + i, hand.get(i));
        }
        end = place + bytes;
        hand.clear();
        return end;
    }

    public int commit(int s) throws IllegalArgumentException, IllegalStateException {
        if (s < 0 || s >= SESSIONS) {
            throw new IllegalArgumentException("there is no such session");
        }
        if (waiting.has(s)) {
            throw new IllegalStateException("the session waits");
        }
        if (isFullFor(COMMIT_BYTES)) {
            throw new IllegalStateException("the log is full");
        }
        int place = writeHead(COMMIT_KIND, COMMIT_BYTES);
        ring.set(place, s);
        end = place + COMMIT_BYTES;
        waiting.add(s, end);
        return end;
    }

    public int flush(int place) throws IllegalArgumentException, UnsupportedOperationException {
        if (place < 0 || place > end) {
            throw new IllegalArgumentException("the place is not in the log");
        }
        if (place <= flushed) {
            return 0;
        }
        int first = blockOf(flushed);
        int last = blockOf(place - 1);
        for (int block = first; block <= last; block++) {
            if (!disk.writeBlock()) {
                cutPower();
                throw new UnsupportedOperationException("the power went");
            }
            flushed = Math.min((block + 1) * BLOCK_PLACES, end);
        }
        return last - first + 1;
    }

    public int told() {
        int s = waiting.first();
        if (s == NONE || waiting.endOf(s) > flushed) {
            return NONE;
        }
        waiting.remove(s);
        return s;
    }

    public boolean touch(int page) {
        return pages.add(page);
    }

    public int mark() {
        pages.clear();
        return end;
    }

    public int checkpoint(int place) throws IllegalArgumentException, UnsupportedOperationException {
        if (place > flushed || !isEdge(place)) {
            throw new IllegalArgumentException("the log can't begin there");
        }
        if (!disk.writeBlock()) {
            cutPower();
            throw new UnsupportedOperationException("the power went");
        }
        begin = place;
        readStart = NONE;
        return room - (blockOf(end) - blockOf(begin) + 1);
    }

    public int open() {
        return recover();
    }

    public int next() throws NoSuchElementException {
        int start = readStart == NONE ? begin : endOfRecord(readStart);
        if (start >= end) {
            throw new NoSuchElementException("there is no other record");
        }
        readStart = start;
        return ring.get(start);
    }

    public int length() {
        return readStart == NONE ? NONE : bytesOfRecord(readStart);
    }

    public int byteOf(int i) {
        if (readStart == NONE || i < 0 || i >= bytesOfRecord(readStart)) {
            return NONE;
        }
        return ring.get(readStart + HEAD_PLACES + i);
    }

    public void charge(int n) throws IllegalArgumentException {
        if (n < 0 || n > MOST_CHARGE) {
            throw new IllegalArgumentException("the charge is not 0 .. 999");
        }
        disk.setCharge(n);
    }

    public int state(int what) {
        switch (what) {
            case 0:
                return begin;
            case 1:
                return end;
            case 2:
                return flushed;
            case 3:
                return disk.written();
            case 4:
                return hand.count();
            case 5:
                return waiting.count();
            case 6:
                return pages.count();
            case 7:
                return readStart == NONE ? NONE : endOfRecord(readStart);
            default:
                return NONE;
        }
    }

    private static int blockOf(int place) {
        return place / BLOCK_PLACES;
    }

    private boolean isFullFor(int bytes) {
        int newEnd = end + HEAD_PLACES + bytes;
        return newEnd > LAST_PLACE || blockOf(newEnd - 1) - blockOf(begin) >= room;
    }

    /** A record's three places before its bytes hold its kind and how many bytes it has. */
    private int writeHead(int kind, int bytes) {
        ring.set(end, kind);
        ring.set(end + 1, bytes >> 8);
        ring.set(end + 2, bytes);
        return end + HEAD_PLACES;
    }

    private int bytesOfRecord(int start) {
        return ring.get(start + 1) << 8 | ring.get(start + 2);
    }

    private int endOfRecord(int start) {
        return start + HEAD_PLACES + bytesOfRecord(start);
    }

    /** Whether the log begins at a place, or one of its records ends there. */
    private boolean isEdge(int place) {
        int edge = begin;
        for (int i = 0; i < MOST_RECORDS && edge < place && edge < end; i++) {
            edge = endOfRecord(edge);
        }
        return edge == place;
    }

    /** Keeps just the records that are flushed whole: how many they are. */
    private int recover() {
        int records = 0;
        int edge = begin;
        while (records < MOST_RECORDS && edge < end && endOfRecord(edge) <= flushed) {
            edge = endOfRecord(edge);
            records++;
        }
        end = edge;
        flushed = edge;
        readStart = NONE;
        hand.clear();
        waiting.clear();
        pages.clear();
        return records;
    }

    private void cutPower() {
        recover();
        disk.dropCharge();
    }

    /** The places of one block. */
    private static final class Block {
        private final byte[] cells = new byte[BLOCK_PLACES];
    }

    /** The blocks by place; one is made when it is first used, so that a short log stays small. */
    private static final class Ring {
        private final Block[] blocks = new Block[MOST_BLOCKS];

        int get(int place) {
            if (place < 0) {
                return 0;
            }
            Block block = blocks[blockOf(place) % MOST_BLOCKS];
            return block == null ? 0 : block.cells[place % BLOCK_PLACES] & 255;
        }

        void set(int place, int value) {
            if (place < 0) {
                return;
            }
            int at = blockOf(place) % MOST_BLOCKS;
            Block block = blocks[at];
            if (block == null) {
                block = new Block();
                blocks[at] = block;
            }
            block.cells[place % BLOCK_PLACES] = (byte) value;
        }
    }

    /** The bytes of the record in hand. */
    private static final class Hand {
        private final byte[] bytes = new byte[MOST_BYTES];
        private int count;

        int count() {
            return count;
        }

        boolean hasRoomFor(int n) {
            return n <= MOST_BYTES - count;
        }

        void add(int value) {
            if (count >= 0 && count < MOST_BYTES) {
                bytes[count] = (byte) value;
                count++;
            }
        }

        int get(int i) {
            return i >= 0 && i < count && i < MOST_BYTES ? bytes[i] & 255 : 0;
        }

        void clear() {
            count = 0;
        }
    }

    /** The sessions that wait, each with its commit's end; 0 if it does not, as no record ends there. */
    private static final class Waiting {
        private final int[] ends = new int[SESSIONS];

        private static boolean isSession(int s) {
            return s >= 0 && s < SESSIONS;
        }

        boolean has(int s) {
            return isSession(s) && ends[s] != 0;
        }

        int endOf(int s) {
            return isSession(s) ? ends[s] : 0;
        }

        void add(int s, int commitEnd) {
            if (isSession(s)) {
                ends[s] = commitEnd;
            }
        }

        void remove(int s) {
            if (isSession(s)) {
                ends[s] = 0;
            }
        }

        int first() {
            int first = NONE;
            for (int s = 0; s < SESSIONS; s++) {
                if (has(s) && (first == NONE || ends[s] < endOf(first))) {
                    first = s;
                }
            }
            return first;
        }

        int count() {
            int count = 0;
            for (int s = 0; s < SESSIONS; s++) {
                if (has(s)) {
                    count++;
                }
            }
            return count;
        }

        void clear() {
            Arrays.fill(ends, 0);
        }
    }

    /** The pages that are touched, a bit each. */
    private static final class Pages {
        private final long[] bits = new long[PAGES / 64];
        private int count;

        int count() {
            return count;
        }

        boolean add(int page) {
            if (page < 0 || page >= PAGES) {
                return false;
            }
            int at = page / 64;
            long bit = 1L << (page % 64);
            if ((bits[at] & bit) != 0) {
                return false;
            }
            bits[at] |= bit;
            count++;
            return true;
        }

        void clear() {
            Arrays.fill(bits, 0L);
            count = 0;
        }
    }

    /** How many blocks were written, and how many the charge still lets be. */
    private static final class Disk {
        private int written;
        private int left = NONE;

        int written() {
            return written;
        }

        void setCharge(int n) {
            left = n;
        }

        void dropCharge() {
            left = NONE;
        }

        boolean writeBlock() {
            if (left == 0) {
                return false;
            }
            if (left != NONE) {
                left--;
            }
            written++;
            return true;
        }
    }
}

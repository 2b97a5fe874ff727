import java.util.ArrayList;
import java.util.List;
import java.util.NoSuchElementException;
import java.util.Set;
import java.util.TreeMap;
import java.util.TreeSet;

/** The document once more, with the lists and maps of the library: slow, plain, and held otherwise. */
final class Model {
    private record Entry(int kind, List<Integer> bytes, int end) { }

    private final int room;
    private List<Entry> log = new ArrayList<>();
    private List<Integer> hand = new ArrayList<>();
    private final TreeMap<Integer, Integer> sessionByEnd = new TreeMap<>();
    private final Set<Integer> pages = new TreeSet<>();
    private int begin;
    private int flushed;
    private int written;
    private long left = Long.MAX_VALUE;
    private int read;

    Model(int blocks) {
        room = blocks < 3 || blocks > 32 ? 32 : blocks;
    }

    private int end() {
        return log.isEmpty() ? begin : log.get(log.size() - 1).end();
    }

    boolean put(long v, int n) {
        if (n < 1 || n > 8 || hand.size() + n > 600) {
            return false;
        }
        List<Integer> bytes = new ArrayList<>();
        for (int i = 0; i < n; i++) {
            bytes.add(0, (int) (v & 255));
            v >>= 8;
        }
        hand.addAll(bytes);
        return true;
    }

    boolean fill(int v, int n) {
        if (n < 1 || n > 600 || hand.size() + n > 600) {
            return false;
        }
        for (int i = 0; i < n; i++) {
            hand.add(v & 255);
        }
        return true;
    }

    private int add(int kind, List<Integer> bytes) {
        int newEnd = end() + 3 + bytes.size();
        if (newEnd > 500 * (begin / 500 + room)) {
            throw new IllegalStateException();
        }
        log.add(new Entry(kind, bytes, newEnd));
        return newEnd;
    }

    int append(int kind) {
        if (kind < 1 || kind > 14) {
            throw new IllegalArgumentException();
        }
        int newEnd = add(kind, hand);
        hand = new ArrayList<>();
        return newEnd;
    }

    int commit(int s) {
        if (s < 0 || s > 5) {
            throw new IllegalArgumentException();
        }
        if (sessionByEnd.containsValue(s)) {
            throw new IllegalStateException();
        }
        int newEnd = add(15, List.of(s));
        sessionByEnd.put(newEnd, s);
        return newEnd;
    }

    private void write() {
        if (left == 0) {
            open();
            left = Long.MAX_VALUE;
            throw new UnsupportedOperationException();
        }
        left--;
        written++;
    }

    int flush(int place) {
        if (place < 0 || place > end()) {
            throw new IllegalArgumentException();
        }
        int before = written;
        while (flushed < place) {
            write();
            flushed = Math.min(end(), flushed - flushed % 500 + 500);
        }
        return written - before;
    }

    int told() {
        if (sessionByEnd.isEmpty() || sessionByEnd.firstKey() > flushed) {
            return -1;
        }
        return sessionByEnd.pollFirstEntry().getValue();
    }

    boolean touch(int page) {
        return page >= 0 && page < 2048 && pages.add(page);
    }

    int mark() {
        pages.clear();
        return end();
    }

    int checkpoint(int place) {
        boolean ends = log.stream().anyMatch(entry -> entry.end() == place);
        if (place != begin && !ends || flushed < place) {
            throw new IllegalArgumentException();
        }
        write();
        int last = end() / 500;
        log.removeIf(entry -> entry.end() <= place);
        begin = place;
        read = 0;
        return room - last + place / 500 - 1;
    }

    int open() {
        log.removeIf(entry -> entry.end() > flushed);
        flushed = end();
        hand.clear();
        sessionByEnd.clear();
        pages.clear();
        read = 0;
        return log.size();
    }

    int next() {
        if (read == log.size()) {
            throw new NoSuchElementException();
        }
        return log.get(read++).kind();
    }

    int length() {
        return read == 0 ? -1 : log.get(read - 1).bytes().size();
    }

    int byteOf(int i) {
        return i < 0 || i >= length() ? -1 : log.get(read - 1).bytes().get(i);
    }

    int charge(int n) {
        if (n < 0 || n > 999) {
            throw new IllegalArgumentException();
        }
        left = n;
        return 0;
    }

    int state(int what) {
        int[] all = {begin, end(), flushed, written, hand.size(), sessionByEnd.size(), pages.size(),
            read == 0 ? -1 : log.get(read - 1).end()};
        return what < 0 || what > 7 ? -1 : all[what];
    }
}

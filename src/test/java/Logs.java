/** Logs of a wished shape, for the tests; few calls each, as an object has but 512. */
final class Logs {
    private static final int MOST_PLACES = 603;

    private Logs() {
    }

    /** A record of so many places, its head among them, comes to the end. */
    static int record(LogDesk x, int places) {
        if (places > 3) {
            x.fill(places, places - 3);
        }
        return x.append(1 + places % 14);
    }

    /** As few records as go come to the log, so that it ends just at a place. */
    static void extend(LogDesk x, int place) {
        int end = x.state(1);
        while (end < place) {
            int rest = place - end;
            if (rest < 3) {
                throw new AssertionError("no record takes " + rest + " places");
            }
            end = record(x, rest <= MOST_PLACES ? rest : Math.min(MOST_PLACES, rest - 3));
        }
    }

    /** A log that ends just at a place, nothing of it flushed. */
    static LogDesk endingAt(int room, int place) {
        LogDesk x = new LogDesk(room);
        extend(x, place);
        return x;
    }

    /** A log that ends at a place, and is flushed to it. */
    static LogDesk flushedAt(int room, int place) {
        LogDesk x = endingAt(room, place);
        x.flush(place);
        return x;
    }

    /** A log without records that begins, and ends, at a place. */
    static LogDesk beginningAt(int room, int place) {
        LogDesk x = new LogDesk(room);
        int end = 0;
        while (end < place) {
            end = place - end <= 1000 ? place : end + 600;
            extend(x, end);
            x.flush(end);
            x.checkpoint(end);
        }
        return x;
    }
}

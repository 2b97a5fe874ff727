/** All that calls can tell of an object, as one text; the object is used up by it. */
final class Look {
    private static final int MOST_RECORDS = 40;
    private static final int MOST_CHARGE = 6;
    private static final int[] PAGES = {0, 1, 2, 3, 4, 5, 63, 64, 1024, 2046, 2047};

    private final LogDesk x;
    private final StringBuilder text = new StringBuilder();

    private Look(LogDesk x) {
        this.x = x;
    }

    /** States, the record that was read, those behind it, pages, sessions, the record in hand, and the charge. */
    static String at(LogDesk x) {
        Look look = new Look(x);
        look.states();
        look.read();
        look.records();
        look.pages();
        look.sessions();
        look.hand();
        look.charge();
        return look.text.toString();
    }

    private void say(String what, String answer) {
        text.append(what).append(' ').append(answer).append('\n');
    }

    private void states() {
        for (int what = 0; what < 8; what++) {
            say("state", "" + x.state(what));
        }
    }

    private void read() {
        int length = x.length();
        say("length", "" + length);
        int[] at = {0, 1, length / 2, length - 1, length};
        for (int i : at) {
            say("byteOf", "" + x.byteOf(i));
        }
    }

    private void records() {
        String answer = "";
        for (int i = 0; i < MOST_RECORDS && !answer.startsWith("throws"); i++) {
            answer = Check.answer(x::next);
            say("next", answer);
            read();
        }
    }

    private void pages() {
        for (int page : PAGES) {
            say("touch", "" + x.touch(page));
        }
    }

    private void sessions() {
        for (int i = 0; i < 7; i++) {
            say("told", "" + x.told());
        }
        for (int s = 0; s < 6; s++) {
            int session = s;
            say("commit", Check.answer(() -> x.commit(session)));
        }
    }

    /** In a full log the record in hand is only seen behind a checkpoint. */
    private void hand() {
        String answer = Check.answer(() -> x.append(1));
        say("append", answer);
        if (answer.startsWith("throws")) {
            say("flush", Check.answer(() -> x.flush(x.state(1))));
            say("checkpoint", Check.answer(() -> x.checkpoint(x.state(1))));
            say("append", Check.answer(() -> x.append(1)));
        }
        records();
    }

    /** The power goes with the block that the charge does not let be written. */
    private void charge() {
        for (int i = 0; i <= MOST_CHARGE; i++) {
            say("checkpoint", Check.answer(() -> x.checkpoint(x.state(0))));
        }
        say("flush", Check.answer(() -> x.flush(x.state(1))));
        states();
        say("open", Check.answer(x::open));
        records();
    }
}

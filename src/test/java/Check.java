import java.util.NoSuchElementException;
import java.util.function.IntSupplier;

/** Counts and prints the answers that are not the ones due. */
final class Check {
    static final Class<IllegalArgumentException> ARGUMENT = IllegalArgumentException.class;
    static final Class<IllegalStateException> STATE = IllegalStateException.class;
    static final Class<UnsupportedOperationException> POWER = UnsupportedOperationException.class;
    static final Class<NoSuchElementException> ELEMENT = NoSuchElementException.class;

    private final String name;
    private String sentence = "";
    private int wrong;

    Check(String name) {
        this.name = name;
    }

    /** What follows tests this sentence of the document: it is printed with each wrong answer. */
    void about(String text) {
        sentence = " [" + text + "]";
    }

    void due(String call, long got, long want) {
        if (got != want) {
            fail(call + " answered " + got + ", due is " + want);
        }
    }

    void due(String call, boolean got, boolean want) {
        due(call, got ? 1 : 0, want ? 1 : 0);
    }

    void due(String call, String got, String want) {
        if (!got.equals(want)) {
            fail(call + " answered " + got + ", due is " + want);
        }
    }

    /** The answers of state(0), state(1) and so on. */
    void states(String when, LogDesk x, int... want) {
        for (int what = 0; what < want.length; what++) {
            due(when + ": state(" + what + ")", x.state(what), want[what]);
        }
    }

    /** The call must throw just that class of exception, not one below it. */
    void throwing(String call, Class<? extends RuntimeException> want, Runnable body) {
        try {
            body.run();
        } catch (RuntimeException e) {
            if (e.getClass() != want) {
                fail(call + " threw " + e.getClass().getName() + ", due is " + want.getName());
            }
            return;
        }
        fail(call + " threw nothing, due is " + want.getName());
    }

    /** What a call answered, or which exception it threw, as one text. */
    static String answer(IntSupplier body) {
        try {
            return Integer.toString(body.getAsInt());
        } catch (RuntimeException e) {
            return "throws." + e.getClass().getSimpleName();
        }
    }

    void fail(String text) {
        wrong++;
        System.out.println(name + sentence + ": " + text);
    }

    int wrong() {
        return wrong;
    }

    void end() {
        if (wrong != 0) {
            System.out.println(name + ": " + wrong + " answers are not as due");
            System.exit(1);
        }
    }
}

import java.util.NoSuchElementException;

/**
 * What the tests share: they compare answers, print each wrong one behind the sentence of the document that it breaks,
 * and end with exit code 1 if there was one.
 */
final class Check {
    /** A call that may throw. */
    interface Made {
        void make();
    }

    static final String NO_ELEMENT = "throws " + NoSuchElementException.class.getName();
    static final String BAD_ARGUMENT = "throws " + IllegalArgumentException.class.getName();
    static final String BAD_STATE = "throws " + IllegalStateException.class.getName();

    private static String sentence = "";
    private static int wrong = 0;

    private Check() {
    }

    /** The document's words that the checks from here on are about. */
    static void sentence(String words) {
        sentence = words;
    }

    static void same(String call, long got, long want) {
        if (got != want) {
            fail(call + " answered " + got + ", due is " + want);
        }
    }

    static void same(String call, boolean got, boolean want) {
        if (got != want) {
            fail(call + " answered " + got + ", due is " + want);
        }
    }

    static void same(String call, String got, String want) {
        if (!got.equals(want)) {
            fail(call + " answered\n  " + got + "\ndue is\n  " + want);
        }
    }

    static void noElement(String call, Made made) {
        same(call, thrownBy(made), NO_ELEMENT);
    }

    static void badArgument(String call, Made made) {
        same(call, thrownBy(made), BAD_ARGUMENT);
    }

    static void badState(String call, Made made) {
        same(call, thrownBy(made), BAD_STATE);
    }

    /** Names the exact class, because a subclass would not be what the document names. */
    static String thrownBy(Made made) {
        try {
            made.make();
        } catch (Throwable thrown) {
            return "throws " + thrown.getClass().getName();
        }
        return "throws nothing";
    }

    /** The lock's row is these sessions, in this order, and none behind them. */
    static void row(String when, LeaseDesk desk, int lock, int... due) {
        for (int k = 0; k < 6; k++) {
            same("waiter(" + lock + ", " + k + ") " + when, desk.waiter(lock, k), k < due.length ? due[k] : -1);
        }
    }

    /** A lock's lease, by the three questions about it. */
    static void lease(String when, LeaseDesk desk, int lock, int holder, int token, int until) {
        same("holder(" + lock + ") " + when, desk.holder(lock), holder);
        same("token(" + lock + ") " + when, desk.token(lock), token);
        same("until(" + lock + ") " + when, desk.until(lock), until);
    }

    static void free(String when, LeaseDesk desk, int lock, int token) {
        lease(when, desk, lock, -1, token, -1);
    }

    /** A desk with this many sessions open, in slots 0, 1, .. */
    static LeaseDesk deskWith(int sessions) {
        LeaseDesk desk = new LeaseDesk();
        for (int slot = 0; slot < sessions; slot++) {
            same("open()", desk.open(), slot);
        }
        return desk;
    }

    /** The time goes on by d, and none of these sessions falls silent in it. */
    static void tickKeeping(LeaseDesk desk, int d, int... slots) {
        for (int slot : slots) {
            desk.keep(slot);
        }
        desk.tick(d);
    }

    static void fail(String what) {
        wrong++;
        System.out.println(sentence.isEmpty() ? what : "\"" + sentence + "\": " + what);
    }

    static void end() {
        if (wrong != 0) {
            System.out.println(wrong + " answers are not as due");
            System.exit(1);
        }
    }
}

/** "A call that throws, or is refused (false, -1), changes nothing.": each such call, and each question. */
public final class ChangesNothingTest {
    private static final int HIGH = Integer.MAX_VALUE;
    private static final int LOW = Integer.MIN_VALUE;

    public static void main(String[] args) {
        Check.sentence("A call that throws, or is refused (false, -1), changes nothing.");
        open();
        close();
        keep();
        rate();
        tick();
        acquireWithoutASession();
        acquireWithoutALock();
        acquireWithoutATerm();
        releaseWithoutASession();
        releaseWithoutALock();
        releaseByOneThatDoesNotHold();
        cancel();
        write();
        questions();
        questionsFarOutside();
        Check.end();
    }

    private static void onFresh(String due, Kind kind, int... arguments) {
        Probe.changesNothing("a new desk", Scenes::fresh, new Call(kind, arguments), due);
    }

    private static void onBusy(String due, Kind kind, int... arguments) {
        Probe.changesNothing("a busy desk", Scenes::busy, new Call(kind, arguments), due);
    }

    private static void onFull(String due, Kind kind, int... arguments) {
        Probe.changesNothing("a full desk", Scenes::full, new Call(kind, arguments), due);
    }

    private static void onEach(String due, Kind kind, int... arguments) {
        onFresh(due, kind, arguments);
        onBusy(due, kind, arguments);
        onFull(due, kind, arguments);
    }

    private static void open() {
        onFull(Check.BAD_STATE, Kind.OPEN);
    }

    private static void close() {
        onFresh(Check.NO_ELEMENT, Kind.CLOSE, 0);
        onBusy(Check.NO_ELEMENT, Kind.CLOSE, 4);
        for (int slot : Outside.SLOTS) {
            onEach(Check.NO_ELEMENT, Kind.CLOSE, slot);
        }
    }

    private static void keep() {
        onFresh(Check.NO_ELEMENT, Kind.KEEP, 0);
        onBusy(Check.NO_ELEMENT, Kind.KEEP, 4);
        for (int slot : Outside.SLOTS) {
            onEach(Check.NO_ELEMENT, Kind.KEEP, slot);
        }
    }

    private static void rate() {
        onFresh("false", Kind.RATE, 0, 9);
        onBusy("false", Kind.RATE, 4, 9);
        for (int slot : Outside.SLOTS) {
            onEach("false", Kind.RATE, slot, 9);
        }
        for (int r : Outside.RATES) {
            onBusy("false", Kind.RATE, 1, r);
            onFull("false", Kind.RATE, 0, r);
            onFull("false", Kind.RATE, 5, r);
        }
        onBusy("false", Kind.RATE, 4, 12);
        onFull("false", Kind.RATE, 6, 8);
    }

    private static void tick() {
        for (int d : Outside.STEPS) {
            onEach("-1", Kind.TICK, d);
        }
    }

    private static void acquireWithoutASession() {
        onFresh(Check.NO_ELEMENT, Kind.ACQUIRE, 0, 0, 10);
        for (int lock = 0; lock < 4; lock++) {
            onBusy(Check.NO_ELEMENT, Kind.ACQUIRE, 4, lock, 10);
        }
        for (int slot : Outside.SLOTS) {
            onFresh(Check.NO_ELEMENT, Kind.ACQUIRE, slot, 0, 10);
            onBusy(Check.NO_ELEMENT, Kind.ACQUIRE, slot, 2, 10);
            onFull(Check.NO_ELEMENT, Kind.ACQUIRE, slot, 3, 10);
        }
    }

    private static void acquireWithoutALock() {
        for (int lock : Outside.LOCKS) {
            onBusy(Check.BAD_ARGUMENT, Kind.ACQUIRE, 3, lock, 10);
            onFull(Check.BAD_ARGUMENT, Kind.ACQUIRE, 0, lock, 10);
        }
    }

    private static void acquireWithoutATerm() {
        for (int term : Outside.TERMS) {
            onBusy(Check.BAD_ARGUMENT, Kind.ACQUIRE, 0, 0, term);
            onBusy(Check.BAD_ARGUMENT, Kind.ACQUIRE, 2, 0, term);
            onBusy(Check.BAD_ARGUMENT, Kind.ACQUIRE, 5, 0, term);
            onBusy(Check.BAD_ARGUMENT, Kind.ACQUIRE, 1, 2, term);
            onFull(Check.BAD_ARGUMENT, Kind.ACQUIRE, 5, 3, term);
        }
    }

    private static void releaseWithoutASession() {
        onFresh(Check.NO_ELEMENT, Kind.RELEASE, 0, 0);
        onBusy(Check.NO_ELEMENT, Kind.RELEASE, 4, 0);
        onBusy(Check.NO_ELEMENT, Kind.RELEASE, 4, 2);
        for (int slot : Outside.SLOTS) {
            onFresh(Check.NO_ELEMENT, Kind.RELEASE, slot, 0);
            onBusy(Check.NO_ELEMENT, Kind.RELEASE, slot, 2);
            onFull(Check.NO_ELEMENT, Kind.RELEASE, slot, 0);
        }
    }

    private static void releaseWithoutALock() {
        for (int lock : Outside.LOCKS) {
            onBusy(Check.BAD_ARGUMENT, Kind.RELEASE, 0, lock);
            onFull(Check.BAD_ARGUMENT, Kind.RELEASE, 0, lock);
            onFull(Check.BAD_ARGUMENT, Kind.RELEASE, 5, lock);
        }
    }

    private static void releaseByOneThatDoesNotHold() {
        onBusy(Check.BAD_STATE, Kind.RELEASE, 0, 1);
        onBusy(Check.BAD_STATE, Kind.RELEASE, 0, 2);
        onBusy(Check.BAD_STATE, Kind.RELEASE, 0, 3);
        onBusy(Check.BAD_STATE, Kind.RELEASE, 1, 0);
        onBusy(Check.BAD_STATE, Kind.RELEASE, 5, 0);
        onFull(Check.BAD_STATE, Kind.RELEASE, 1, 0);
        onFull(Check.BAD_STATE, Kind.RELEASE, 5, 3);
    }

    private static void cancel() {
        onFresh("false", Kind.CANCEL, 0, 0);
        onBusy("false", Kind.CANCEL, 0, 0);
        onBusy("false", Kind.CANCEL, 5, 0);
        onBusy("false", Kind.CANCEL, 1, 1);
        onBusy("false", Kind.CANCEL, 1, 2);
        onBusy("false", Kind.CANCEL, 1, 3);
        onBusy("false", Kind.CANCEL, 4, 0);
        onFull("false", Kind.CANCEL, 0, 3);
        for (int slot : Outside.SLOTS) {
            onFresh("false", Kind.CANCEL, slot, 0);
            onBusy("false", Kind.CANCEL, slot, 0);
            onFull("false", Kind.CANCEL, slot, 3);
        }
        for (int lock : Outside.LOCKS) {
            onFresh("false", Kind.CANCEL, 0, lock);
            onBusy("false", Kind.CANCEL, 1, lock);
            onFull("false", Kind.CANCEL, 5, lock);
        }
    }

    private static void write() {
        onBusy("false", Kind.WRITE, 1, 2, 99);
        onBusy("false", Kind.WRITE, 1, 1, 99);
        for (int token : Outside.TOKENS) {
            onFresh("false", Kind.WRITE, 0, token, 99);
            onBusy("false", Kind.WRITE, 0, token, 99);
            onBusy("false", Kind.WRITE, 3, token, 99);
        }
        for (int lock : Outside.LOCKS) {
            onEach("false", Kind.WRITE, lock, 1, 99);
            onBusy("false", Kind.WRITE, lock, HIGH, 99);
            onBusy("false", Kind.WRITE, lock, 0, 99);
        }
    }

    private static void questions() {
        for (Call question : Questions.ALL) {
            Probe.changesNothing("a new desk", Scenes::fresh, question, question.on(Scenes.fresh()));
            Probe.changesNothing("a busy desk", Scenes::busy, question, question.on(Scenes.busy()));
            Probe.changesNothing("a full desk", Scenes::full, question, question.on(Scenes.full()));
        }
    }

    private static void questionsFarOutside() {
        int[] far = {LOW, HIGH};
        for (int none : far) {
            onEach("-1", Kind.HOLDER, none);
            onEach("-1", Kind.TOKEN, none);
            onEach("-1", Kind.UNTIL, none);
            onEach("-1", Kind.WAITER, none, 0);
            onEach("-1", Kind.WAITER, 0, none);
            onEach("-1", Kind.WAITER, none, none);
            onEach("-1", Kind.CLOCK, none);
            onEach("false", Kind.BELIEVES, none, 0);
            onEach("false", Kind.BELIEVES, 0, none);
            onEach("false", Kind.BELIEVES, none, none);
            onEach("0", Kind.STORED, none);
            onEach("-1", Kind.SEEN, none);
        }
    }
}

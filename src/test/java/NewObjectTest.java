/** Promise 1: a new object. */
public final class NewObjectTest {
    public static void main(String[] args) {
        timeIsZero();
        allSlotsAreFree();
        allLocksAreFree();
        allRowsAreEmpty();
        nothingIsInTheStore();
        theFirstOfEach();
        objectsShareNothing();
        Check.end();
    }

    private static void timeIsZero() {
        Check.sentence("Time 0");
        Check.same("time()", new LeaseDesk().time(), 0);
    }

    private static void allSlotsAreFree() {
        Check.sentence("all slots and locks free (the slots)");
        LeaseDesk desk = new LeaseDesk();
        for (int slot = 0; slot < 6; slot++) {
            int none = slot;
            Check.same("clock(" + slot + ")", desk.clock(slot), -1);
            Check.noElement("keep(" + slot + ")", () -> desk.keep(none));
        }
        for (int slot = 0; slot < 6; slot++) {
            Check.same("open()", desk.open(), slot);
        }
    }

    private static void allLocksAreFree() {
        Check.sentence("all slots and locks free (the locks)");
        LeaseDesk desk = new LeaseDesk();
        for (int lock = 0; lock < 4; lock++) {
            Check.free("of a new desk", desk, lock, 0);
            for (int slot = 0; slot < 6; slot++) {
                Check.same("believes(" + slot + ", " + lock + ")", desk.believes(slot, lock), false);
            }
        }
        Check.same("tick(100)", desk.tick(100), 0);
    }

    private static void allRowsAreEmpty() {
        Check.sentence("all slots and locks free (no session, so no request)");
        LeaseDesk desk = new LeaseDesk();
        for (int lock = 0; lock < 4; lock++) {
            Check.row("of a new desk", desk, lock);
        }
    }

    private static void nothingIsInTheStore() {
        Check.sentence("nothing in the store");
        LeaseDesk desk = new LeaseDesk();
        for (int lock = 0; lock < 4; lock++) {
            Check.same("stored(" + lock + ")", desk.stored(lock), 0);
            Check.same("seen(" + lock + ")", desk.seen(lock), 0);
        }
    }

    private static void theFirstOfEach() {
        Check.sentence("Time 0, all slots and locks free, nothing in the store.");
        LeaseDesk desk = new LeaseDesk();
        Check.same("open()", desk.open(), 0);
        for (int lock = 0; lock < 4; lock++) {
            Check.same("acquire(0, " + lock + ", 1)", desk.acquire(0, lock, 1), 1);
            Check.same("write(" + lock + ", 1, 5)", desk.write(lock, 1, 5), true);
        }
    }

    private static void objectsShareNothing() {
        Check.sentence("Time 0, all slots and locks free, nothing in the store. (Also beside a desk that is used.)");
        String before = Probe.QUESTIONS.show(new LeaseDesk());
        LeaseDesk old = new LeaseDesk();
        LeaseDesk used = Scenes.full();
        used.write(1, 1, 5);
        Check.same("an older desk's answers", Probe.QUESTIONS.show(old), before);
        Check.same("a younger desk's answers", Probe.QUESTIONS.show(new LeaseDesk()), before);
    }
}

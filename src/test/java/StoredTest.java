/** Promise 18: stored. */
public final class StoredTest {
    public static void main(String[] args) {
        zeroAtFirst();
        theValue();
        eachLockHasItsOwn();
        staysWhenLeasesDoNot();
        noSuchLock();
        Check.end();
    }

    private static void zeroAtFirst() {
        Check.sentence("and a VALUE, 0 at first");
        LeaseDesk desk = Check.deskWith(1);
        desk.acquire(0, 0, 10);
        for (int lock = 0; lock < 4; lock++) {
            Check.same("stored(" + lock + ")", desk.stored(lock), 0);
        }
    }

    private static void theValue() {
        Check.sentence("The value of a lock in the store");
        LeaseDesk desk = new LeaseDesk();
        desk.write(0, 1, -7);
        Check.same("stored(0)", desk.stored(0), -7);
        desk.write(0, 2, 0);
        Check.same("stored(0)", desk.stored(0), 0);
        desk.write(0, 2, Integer.MIN_VALUE);
        Check.same("stored(0)", desk.stored(0), Integer.MIN_VALUE);
        desk.write(0, 1, 4);
        Check.same("stored(0) after a refused write", desk.stored(0), Integer.MIN_VALUE);
    }

    private static void eachLockHasItsOwn() {
        Check.sentence("The value of a lock in the store (of each lock)");
        LeaseDesk desk = new LeaseDesk();
        for (int lock = 0; lock < 4; lock++) {
            desk.write(lock, 1, 100 + lock);
        }
        for (int lock = 0; lock < 4; lock++) {
            Check.same("stored(" + lock + ")", desk.stored(lock), 100 + lock);
        }
    }

    private static void staysWhenLeasesDoNot() {
        Check.sentence("The value of a lock in the store (only a write moves it)");
        LeaseDesk desk = Check.deskWith(2);
        desk.acquire(0, 0, 10);
        desk.acquire(1, 0, 10);
        desk.write(0, 1, 5);
        desk.release(0, 0);
        desk.tick(10);
        desk.acquire(1, 0, 10);
        desk.close(1);
        desk.tick(100);
        Check.same("stored(0)", desk.stored(0), 5);
    }

    private static void noSuchLock() {
        Check.sentence("0 if there is no such lock.");
        LeaseDesk desk = new LeaseDesk();
        for (int lock = 0; lock < 4; lock++) {
            desk.write(lock, 1, 7);
        }
        for (int lock : Outside.LOCKS) {
            Check.same("stored(" + lock + ")", desk.stored(lock), 0);
            desk.write(lock, 1, 8);
            Check.same("stored(" + lock + ") after a refused write", desk.stored(lock), 0);
        }
        Check.same("stored(0), the least lock", desk.stored(0), 7);
        Check.same("stored(3), the greatest lock", desk.stored(3), 7);
    }
}

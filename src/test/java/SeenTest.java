/** Promise 19: seen. */
public final class SeenTest {
    public static void main(String[] args) {
        zeroAtFirst();
        theTokenSeen();
        eachLockHasItsOwn();
        byWritesAlone();
        noSuchLock();
        Check.end();
    }

    private static void zeroAtFirst() {
        Check.sentence("the greatest token SEEN, 0 at first");
        LeaseDesk desk = new LeaseDesk();
        for (int lock = 0; lock < 4; lock++) {
            Check.same("seen(" + lock + ")", desk.seen(lock), 0);
        }
    }

    private static void theTokenSeen() {
        Check.sentence("The token seen for a lock (the greatest)");
        LeaseDesk desk = new LeaseDesk();
        int[] tokens = {1, 1, 3, 2, 3, 4, 1, 0, -1, Integer.MAX_VALUE, 5};
        int[] due = {1, 1, 3, 3, 3, 4, 4, 4, 4, Integer.MAX_VALUE, Integer.MAX_VALUE};
        for (int i = 0; i < tokens.length; i++) {
            desk.write(0, tokens[i], 1);
            Check.same("seen(0) after a write with " + tokens[i], desk.seen(0), due[i]);
        }
    }

    private static void eachLockHasItsOwn() {
        Check.sentence("The token seen for a lock (of each lock)");
        LeaseDesk desk = new LeaseDesk();
        for (int lock = 3; lock >= 0; lock--) {
            desk.write(lock, lock + 1, 0);
        }
        for (int lock = 0; lock < 4; lock++) {
            Check.same("seen(" + lock + ")", desk.seen(lock), lock + 1);
        }
    }

    private static void byWritesAlone() {
        Check.sentence("The token seen for a lock (only a write moves it)");
        LeaseDesk desk = Check.deskWith(2);
        desk.acquire(0, 0, 10);
        desk.acquire(1, 0, 10);
        desk.release(0, 0);
        Check.same("seen(0): a lease's token is not seen by that", desk.seen(0), 0);
        desk.write(0, 2, 5);
        desk.close(1);
        desk.tick(100);
        Check.same("seen(0)", desk.seen(0), 2);
    }

    private static void noSuchLock() {
        Check.sentence("-1 if there is no such lock.");
        LeaseDesk desk = new LeaseDesk();
        for (int lock = 0; lock < 4; lock++) {
            desk.write(lock, 1, 7);
        }
        for (int lock : Outside.LOCKS) {
            Check.same("seen(" + lock + ")", desk.seen(lock), -1);
            desk.write(lock, 1, 8);
            Check.same("seen(" + lock + ") after a refused write", desk.seen(lock), -1);
        }
        Check.same("seen(0), the least lock", desk.seen(0), 1);
        Check.same("seen(3), the greatest lock", desk.seen(3), 1);
    }
}

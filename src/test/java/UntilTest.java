/** Promise 12: until. */
public final class UntilTest {
    public static void main(String[] args) {
        whenTheLeaseEnds();
        theShortestAndTheLongest();
        followsTheLeases();
        late();
        freeBecauseNeverLent();
        freeAgain();
        noSuchLock();
        Check.end();
    }

    private static void whenTheLeaseEnds() {
        Check.sentence("When the lease of the lock ends");
        LeaseDesk desk = Check.deskWith(1);
        for (int lock = 0; lock < 4; lock++) {
            desk.acquire(0, lock, 10 * lock + 5);
            desk.tick(1);
        }
        for (int lock = 0; lock < 4; lock++) {
            Check.same("until(" + lock + ")", desk.until(lock), lock + 10 * lock + 5);
        }
    }

    private static void theShortestAndTheLongest() {
        Check.sentence("it ends at the time plus the term (1 and 100)");
        LeaseDesk desk = Check.deskWith(1);
        desk.tick(30);
        desk.acquire(0, 0, 1);
        desk.acquire(0, 3, 100);
        Check.same("until(0)", desk.until(0), 31);
        Check.same("until(3)", desk.until(3), 130);
    }

    private static void followsTheLeases() {
        Check.sentence("When the lease of the lock ends (the present one)");
        LeaseDesk desk = Check.deskWith(3);
        desk.acquire(0, 0, 10);
        desk.acquire(1, 0, 20);
        desk.acquire(2, 0, 30);
        desk.tick(2);
        Check.same("until(0): it does not move with the time", desk.until(0), 10);
        desk.acquire(0, 0, 9);
        Check.same("until(0) after a renewal", desk.until(0), 11);
        desk.release(0, 0);
        Check.same("until(0) after a release", desk.until(0), 22);
        desk.tick(20);
        Check.same("until(0) after its end", desk.until(0), 52);
    }

    private static void late() {
        Check.sentence("When the lease of the lock ends (at the latest time that the calls allow)");
        LeaseDesk desk = new LeaseDesk();
        for (int i = 0; i < 507; i++) {
            desk.tick(100);
        }
        desk.open();
        desk.acquire(0, 0, 100);
        Check.same("until(0)", desk.until(0), 50800);
    }

    private static void freeBecauseNeverLent() {
        Check.sentence("-1 if it is free (never lent)");
        LeaseDesk desk = Check.deskWith(1);
        desk.tick(5);
        for (int lock = 0; lock < 4; lock++) {
            Check.same("until(" + lock + ")", desk.until(lock), -1);
        }
    }

    private static void freeAgain() {
        Check.sentence("-1 if it is free (again)");
        LeaseDesk desk = Check.deskWith(2);
        for (int lock = 0; lock < 4; lock++) {
            desk.acquire(lock / 3, lock, lock == 2 ? 5 : 100);
        }
        desk.release(0, 0);
        Check.same("until(0) after a release", desk.until(0), -1);
        desk.close(1);
        Check.same("until(3) after a close", desk.until(3), -1);
        desk.tick(5);
        Check.same("until(2) at its end", desk.until(2), -1);
        desk.tick(46);
        Check.same("until(1) after its session's silence", desk.until(1), -1);
    }

    private static void noSuchLock() {
        Check.sentence("or there is no such lock.");
        LeaseDesk desk = Scenes.full();
        for (int lock : Outside.LOCKS) {
            Check.same("until(" + lock + ")", desk.until(lock), -1);
        }
        Check.same("until(0), the least lock", desk.until(0), 10);
        Check.same("until(3), the greatest lock", desk.until(3), 13);
    }
}

/** Promise 10: holder. */
public final class HolderTest {
    public static void main(String[] args) {
        theSession();
        eachLockHasItsOwn();
        followsTheLeases();
        freeBecauseNeverLent();
        freeAgain();
        noSuchLock();
        Check.end();
    }

    private static void theSession() {
        Check.sentence("The session to which the lock is lent");
        for (int slot = 0; slot < 6; slot++) {
            for (int lock = 0; lock < 4; lock++) {
                LeaseDesk desk = Check.deskWith(6);
                desk.acquire(slot, lock, 10);
                Check.same("holder(" + lock + ")", desk.holder(lock), slot);
            }
        }
    }

    private static void eachLockHasItsOwn() {
        Check.sentence("The session to which the lock is lent (of each lock)");
        LeaseDesk desk = Check.deskWith(6);
        int[] holders = {5, 0, 3, 0};
        for (int lock = 0; lock < 4; lock++) {
            desk.acquire(holders[lock], lock, 10);
        }
        for (int lock = 0; lock < 4; lock++) {
            Check.same("holder(" + lock + ")", desk.holder(lock), holders[lock]);
        }
    }

    private static void followsTheLeases() {
        Check.sentence("The session to which the lock is lent (now)");
        LeaseDesk desk = Check.deskWith(4);
        for (int slot = 0; slot < 4; slot++) {
            desk.acquire(slot, 0, 10);
        }
        Check.same("holder(0)", desk.holder(0), 0);
        desk.release(0, 0);
        Check.same("holder(0) after a release", desk.holder(0), 1);
        desk.close(1);
        Check.same("holder(0) after a close", desk.holder(0), 2);
        desk.tick(9);
        Check.same("holder(0) before the end", desk.holder(0), 2);
        desk.tick(1);
        Check.same("holder(0) at the end", desk.holder(0), 3);
        desk.acquire(3, 0, 20);
        Check.same("holder(0) after a renewal", desk.holder(0), 3);
    }

    private static void freeBecauseNeverLent() {
        Check.sentence("-1 if it is free (never lent)");
        LeaseDesk desk = Check.deskWith(1);
        for (int lock = 0; lock < 4; lock++) {
            Check.same("holder(" + lock + ")", desk.holder(lock), -1);
        }
    }

    private static void freeAgain() {
        Check.sentence("-1 if it is free (again)");
        LeaseDesk desk = Check.deskWith(3);
        desk.acquire(0, 0, 10);
        desk.acquire(1, 1, 10);
        desk.acquire(2, 2, 10);
        desk.release(0, 0);
        Check.same("holder(0) after a release", desk.holder(0), -1);
        desk.close(1);
        Check.same("holder(1) after a close", desk.holder(1), -1);
        desk.tick(10);
        Check.same("holder(2) at the end", desk.holder(2), -1);
        desk.acquire(2, 3, 100);
        desk.tick(51);
        Check.same("holder(3) after its session's silence", desk.holder(3), -1);
    }

    private static void noSuchLock() {
        Check.sentence("or there is no such lock.");
        LeaseDesk desk = Scenes.full();
        for (int lock : Outside.LOCKS) {
            Check.same("holder(" + lock + ")", desk.holder(lock), -1);
        }
        Check.same("holder(0), the least lock", desk.holder(0), 0);
        Check.same("holder(3), the greatest lock", desk.holder(3), 0);
    }
}

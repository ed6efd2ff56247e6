/** Promises 10 (holder), 11 (token), 12 (until) and 13 (waiter). */
public final class LockViewTest {
    private static final int[] NO_LOCKS = {-1, 4, 5, Integer.MIN_VALUE, Integer.MAX_VALUE};

    public static void main(String[] args) {
        eachLockHasItsOwn();
        afterTheLease();
        noSuchLock();
        noSuchPlace();
        Check.end();
    }

    private static void eachLockHasItsOwn() {
        LeaseDesk desk = Check.deskWith(6);
        for (int lock = 0; lock < 4; lock++) {
            for (int again = 0; again < lock; again++) {
                desk.acquire(5, lock, 1);
                desk.release(5, lock);
            }
            desk.acquire(lock, lock, 10 + lock);
            desk.acquire(5 - lock % 2, lock, 1);
        }
        for (int lock = 0; lock < 4; lock++) {
            Check.same("holder(" + lock + ")", desk.holder(lock), lock);
            Check.same("token(" + lock + ")", desk.token(lock), lock + 1);
            Check.same("until(" + lock + ")", desk.until(lock), 10 + lock);
            Check.same("waiter(" + lock + ", 0)", desk.waiter(lock, 0), 5 - lock % 2);
            Check.same("waiter(" + lock + ", 1)", desk.waiter(lock, 1), -1);
        }
    }

    private static void afterTheLease() {
        LeaseDesk desk = Check.deskWith(1);
        desk.acquire(0, 3, 5);
        desk.tick(5);
        Check.same("holder(3)", desk.holder(3), -1);
        Check.same("token(3) stays", desk.token(3), 1);
        Check.same("until(3)", desk.until(3), -1);
    }

    private static void noSuchLock() {
        LeaseDesk desk = Check.deskWith(2);
        for (int lock = 0; lock < 4; lock++) {
            desk.acquire(0, lock, 10);
            desk.acquire(1, lock, 10);
        }
        for (int lock : NO_LOCKS) {
            Check.same("holder(" + lock + ")", desk.holder(lock), -1);
            Check.same("token(" + lock + ")", desk.token(lock), -1);
            Check.same("until(" + lock + ")", desk.until(lock), -1);
            Check.same("waiter(" + lock + ", 0)", desk.waiter(lock, 0), -1);
        }
    }

    private static void noSuchPlace() {
        LeaseDesk desk = Check.deskWith(6);
        for (int slot = 0; slot < 6; slot++) {
            desk.acquire(slot, 0, 10);
        }
        Check.same("waiter(0, 4), the last of a full row", desk.waiter(0, 4), 5);
        int[] noPlaces = {-1, 5, 6, 7, Integer.MIN_VALUE, Integer.MAX_VALUE};
        for (int k : noPlaces) {
            Check.same("waiter(0, " + k + ")", desk.waiter(0, k), -1);
        }
        desk.cancel(5, 0);
        Check.same("waiter(0, 4), where one stood before", desk.waiter(0, 4), -1);
    }
}

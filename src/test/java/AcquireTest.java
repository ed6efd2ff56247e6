/** Promise 7 (acquire). */
public final class AcquireTest {
    public static void main(String[] args) {
        aFreeLockIsGranted();
        tokensGoUpByOneForEachLock();
        aLongerRenewalMovesTheEnd();
        aShorterRenewalMovesNothing();
        anEqualRenewalMovesNothing();
        aLentLockMakesARow();
        askingAgainKeepsThePlace();
        everyWayOfAskingIsASign();
        aSessionMayHoldAndWaitForMany();
        wrongInputsThrow();
        Check.end();
    }

    private static void aFreeLockIsGranted() {
        LeaseDesk desk = Check.deskWith(6);
        desk.tick(5);
        Check.same("acquire(5, 3, 1)", desk.acquire(5, 3, 1), 1);
        Check.same("holder(3)", desk.holder(3), 5);
        Check.same("until(3)", desk.until(3), 6);
        Check.same("acquire(0, 0, 100)", desk.acquire(0, 0, 100), 1);
        Check.same("until(0)", desk.until(0), 105);
        Check.same("waiter(0, 0)", desk.waiter(0, 0), -1);
    }

    private static void tokensGoUpByOneForEachLock() {
        LeaseDesk desk = Check.deskWith(2);
        for (int token = 1; token <= 20; token++) {
            Check.same("acquire on lock 1", desk.acquire(token % 2, 1, 10), token);
            Check.same("a renewal has the same token", desk.acquire(token % 2, 1, 20), token);
            desk.release(token % 2, 1);
        }
        Check.same("acquire(0, 2, 10): another lock, its own tokens", desk.acquire(0, 2, 10), 1);
    }

    private static void aLongerRenewalMovesTheEnd() {
        LeaseDesk desk = Check.deskWith(1);
        desk.acquire(0, 0, 10);
        desk.tick(4);
        Check.same("acquire(0, 0, 7)", desk.acquire(0, 0, 7), 1);
        Check.same("until(0)", desk.until(0), 11);
        desk.tick(6);
        Check.same("believes(0, 0): 60 of 63 since the renewal", desk.believes(0, 0), true);
        Check.same("tick(1)", desk.tick(1), 1);
    }

    private static void aShorterRenewalMovesNothing() {
        LeaseDesk desk = Check.deskWith(1);
        desk.acquire(0, 0, 20);
        desk.tick(10);
        Check.same("acquire(0, 0, 9)", desk.acquire(0, 0, 9), 1);
        Check.same("until(0)", desk.until(0), 20);
        desk.tick(7);
        Check.same("believes(0, 0): 170 of 180", desk.believes(0, 0), true);
        desk.tick(1);
        Check.same("believes(0, 0): 180 of 180", desk.believes(0, 0), false);
    }

    private static void anEqualRenewalMovesNothing() {
        LeaseDesk desk = Check.deskWith(1);
        desk.acquire(0, 0, 20);
        desk.tick(10);
        Check.same("acquire(0, 0, 10)", desk.acquire(0, 0, 10), 1);
        Check.same("until(0)", desk.until(0), 20);
        desk.tick(8);
        Check.same("believes(0, 0): 180 of 180 since the grant, not 80 of 90", desk.believes(0, 0), false);
    }

    private static void aLentLockMakesARow() {
        LeaseDesk desk = Check.deskWith(6);
        desk.acquire(3, 2, 10);
        int[] order = {5, 0, 4, 1, 2};
        for (int slot : order) {
            Check.same("acquire(" + slot + ", 2, 10)", desk.acquire(slot, 2, 10), 0);
        }
        for (int k = 0; k < order.length; k++) {
            Check.same("waiter(2, " + k + ")", desk.waiter(2, k), order[k]);
        }
        Check.same("holder(2)", desk.holder(2), 3);
        Check.same("token(2)", desk.token(2), 1);
        Check.same("until(2)", desk.until(2), 10);
        for (int k = 0; k < order.length; k++) {
            desk.release(desk.holder(2), 2);
            Check.same("holder(2) in the row's order", desk.holder(2), order[k]);
            Check.same("token(2)", desk.token(2), k + 2);
        }
    }

    private static void askingAgainKeepsThePlace() {
        LeaseDesk desk = Check.deskWith(4);
        desk.acquire(0, 0, 10);
        desk.acquire(1, 0, 20);
        desk.acquire(2, 0, 30);
        desk.acquire(3, 0, 40);
        Check.same("acquire(2, 0, 3) again", desk.acquire(2, 0, 3), 0);
        Check.same("acquire(1, 0, 50) again", desk.acquire(1, 0, 50), 0);
        Check.same("waiter(0, 0)", desk.waiter(0, 0), 1);
        Check.same("waiter(0, 1)", desk.waiter(0, 1), 2);
        Check.same("waiter(0, 2)", desk.waiter(0, 2), 3);
        Check.same("waiter(0, 3)", desk.waiter(0, 3), -1);
        desk.release(0, 0);
        Check.same("until(0) by the later, longer term", desk.until(0), 50);
        desk.release(1, 0);
        Check.same("until(0) by the later, shorter term", desk.until(0), 3);
        desk.release(2, 0);
        Check.same("until(0) by the term of one that asked once", desk.until(0), 40);
    }

    private static void everyWayOfAskingIsASign() {
        LeaseDesk desk = Check.deskWith(6);
        desk.acquire(0, 0, 100);
        desk.acquire(1, 0, 10);
        desk.tick(40);
        desk.acquire(0, 0, 1);
        desk.acquire(1, 0, 10);
        desk.acquire(2, 0, 10);
        desk.acquire(3, 1, 100);
        Check.badArgument("acquire(4, 4, 1)", () -> desk.acquire(4, 4, 1));
        Check.badArgument("acquire(5, 0, 0)", () -> desk.acquire(5, 0, 0));
        desk.tick(50);
        Check.same("clock(0): renewed without gain", desk.clock(0), 900);
        Check.same("clock(1): asked again", desk.clock(1), 900);
        Check.same("clock(2): put behind the row", desk.clock(2), 900);
        Check.same("clock(3): granted", desk.clock(3), 900);
        Check.same("clock(4): thrown for its lock", desk.clock(4), -1);
        Check.same("clock(5): thrown for its term", desk.clock(5), -1);
        aGrantFromTheRowIsNoSign();
    }

    private static void aGrantFromTheRowIsNoSign() {
        LeaseDesk desk = Check.deskWith(2);
        desk.acquire(0, 0, 30);
        desk.acquire(1, 0, 100);
        desk.tick(30);
        Check.same("holder(0)", desk.holder(0), 1);
        Check.same("tick(21)", desk.tick(21), 1);
        Check.same("clock(1)", desk.clock(1), -1);
    }

    private static void aSessionMayHoldAndWaitForMany() {
        LeaseDesk desk = Check.deskWith(2);
        Check.same("acquire(0, 0, 10)", desk.acquire(0, 0, 10), 1);
        Check.same("acquire(0, 1, 10)", desk.acquire(0, 1, 10), 1);
        Check.same("acquire(1, 2, 10)", desk.acquire(1, 2, 10), 1);
        Check.same("acquire(1, 0, 10)", desk.acquire(1, 0, 10), 0);
        Check.same("acquire(1, 1, 10)", desk.acquire(1, 1, 10), 0);
        Check.same("acquire(0, 2, 10)", desk.acquire(0, 2, 10), 0);
        Check.same("waiter(0, 0)", desk.waiter(0, 0), 1);
        Check.same("waiter(1, 0)", desk.waiter(1, 0), 1);
        Check.same("waiter(2, 0)", desk.waiter(2, 0), 0);
    }

    private static void wrongInputsThrow() {
        LeaseDesk desk = Check.deskWith(2);
        desk.close(1);
        int[] notOpen = {-1, 1, 2, 5, 6, Integer.MIN_VALUE, Integer.MAX_VALUE};
        for (int slot : notOpen) {
            Check.noElement("acquire(" + slot + ", 0, 1)", () -> desk.acquire(slot, 0, 1));
            Check.noElement("acquire(" + slot + ", 4, 0): the session counts first", () -> desk.acquire(slot, 4, 0));
        }
        int[] noLocks = {-1, 4, Integer.MIN_VALUE, Integer.MAX_VALUE};
        for (int lock : noLocks) {
            Check.badArgument("acquire(0, " + lock + ", 1)", () -> desk.acquire(0, lock, 1));
        }
        int[] noTerms = {0, 101, -1, Integer.MIN_VALUE, Integer.MAX_VALUE};
        for (int term : noTerms) {
            Check.badArgument("acquire(0, 0, " + term + ")", () -> desk.acquire(0, 0, term));
        }
        Check.same("token(0) after all that", desk.token(0), 0);
    }
}

/** Promise 8: release. */
public final class ReleaseTest {
    public static void main(String[] args) {
        passedOnToNone();
        passedOnToTheOnlyOne();
        passedOnToTheFirstOfAFullRow();
        passedOnWithTheClockAndTheTimeOfNow();
        thisLockAlone();
        theOldHolderMayAskAgain();
        isNoSign();
        notOpenBecauseThereIsNoSlot();
        notOpenBecauseTheSlotIsFree();
        noSuchLock();
        doesNotHoldAFreeLock();
        doesNotHoldALentLock();
        holdsItNoMore();
        theSessionCountsFirst();
        theLockCountsBeforeTheHolding();
        Check.end();
    }

    private static void passedOnToNone() {
        Check.sentence("Passes the lock on. (An empty row: it is free then.)");
        LeaseDesk desk = Check.deskWith(1);
        desk.acquire(0, 0, 10);
        desk.release(0, 0);
        Check.free("released", desk, 0, 1);
        Check.same("believes(0, 0)", desk.believes(0, 0), false);
        Check.same("tick(10): there is no lease to end", desk.tick(10), 0);
    }

    private static void passedOnToTheOnlyOne() {
        Check.sentence("Passes the lock on. (A row of one.)");
        LeaseDesk desk = Check.deskWith(6);
        desk.acquire(5, 3, 10);
        desk.acquire(0, 3, 7);
        desk.release(5, 3);
        Check.lease("released", desk, 3, 0, 2, 7);
        Check.row("released", desk, 3);
    }

    private static void passedOnToTheFirstOfAFullRow() {
        Check.sentence("Passes the lock on. (A full row.)");
        LeaseDesk desk = Scenes.full();
        int[][] rows = {{2, 3, 4, 5}, {3, 4, 5}, {4, 5}, {5}, {}};
        for (int slot = 0; slot < 5; slot++) {
            desk.release(slot, 2);
            Check.lease("released by " + slot, desk, 2, slot + 1, slot + 2, 1 + 10 + (slot + 1) + 2);
            Check.row("released by " + slot, desk, 2, rows[slot]);
        }
        desk.release(5, 2);
        Check.free("released by all", desk, 2, 6);
    }

    private static void passedOnWithTheClockAndTheTimeOfNow() {
        Check.sentence("it ends at the time plus the term; the start is the session's clock (as a lock is released)");
        LeaseDesk desk = Check.deskWith(3);
        desk.rate(2, 11);
        desk.acquire(0, 0, 10);
        desk.acquire(2, 0, 8);
        desk.tick(6);
        desk.release(0, 0);
        Check.lease("released", desk, 0, 2, 2, 14);
        desk.tick(6);
        Check.same("believes(2, 0): 66 of 72 since the clock's 66", desk.believes(2, 0), true);
        desk.tick(1);
        Check.same("believes(2, 0): 77 of 72", desk.believes(2, 0), false);
        Check.same("tick(1)", desk.tick(1), 1);
    }

    private static void thisLockAlone() {
        Check.sentence("Passes the lock on. (Not others.)");
        LeaseDesk desk = Check.deskWith(2);
        for (int lock = 0; lock < 4; lock++) {
            desk.acquire(0, lock, 10);
            desk.acquire(1, lock, 20);
        }
        desk.release(0, 2);
        int[] due = {0, 0, 1, 0};
        for (int lock = 0; lock < 4; lock++) {
            Check.same("holder(" + lock + ")", desk.holder(lock), due[lock]);
            Check.same("waiter(" + lock + ", 0)", desk.waiter(lock, 0), due[lock] == 0 ? 1 : -1);
        }
    }

    private static void theOldHolderMayAskAgain() {
        Check.sentence("Passes the lock on. (The session has it no more, and may wait for it.)");
        LeaseDesk desk = Check.deskWith(3);
        desk.acquire(0, 0, 10);
        desk.acquire(1, 0, 10);
        desk.acquire(2, 0, 10);
        desk.release(0, 0);
        Check.same("acquire(0, 0, 5)", desk.acquire(0, 0, 5), 0);
        Check.row("with the old holder", desk, 0, 2, 0);
    }

    private static void isNoSign() {
        Check.sentence("Passes the lock on. (Nobody's sign is moved.)");
        LeaseDesk desk = Check.deskWith(2);
        desk.acquire(0, 0, 60);
        desk.acquire(1, 0, 60);
        desk.tick(50);
        desk.release(0, 0);
        Check.same("tick(1)", desk.tick(1), 1);
        Check.same("clock(0), which released", desk.clock(0), -1);
        Check.same("clock(1), which was granted it", desk.clock(1), -1);
    }

    private static void notOpenBecauseThereIsNoSlot() {
        Check.sentence("NoSuchElementException if the session is not open (no such slot)");
        LeaseDesk desk = Check.deskWith(6);
        desk.acquire(0, 0, 10);
        for (int slot : Outside.SLOTS) {
            Check.noElement("release(" + slot + ", 0), a lent lock", () -> desk.release(slot, 0));
            Check.noElement("release(" + slot + ", 1), a free lock", () -> desk.release(slot, 1));
        }
        Check.lease("after that", desk, 0, 0, 1, 10);
    }

    private static void notOpenBecauseTheSlotIsFree() {
        Check.sentence("NoSuchElementException if the session is not open (a free slot)");
        LeaseDesk desk = Check.deskWith(3);
        desk.acquire(1, 1, 10);
        desk.acquire(0, 0, 100);
        desk.close(1);
        Check.noElement("release(1, 1), closed with it", () -> desk.release(1, 1));
        Check.noElement("release(5, 1), never opened", () -> desk.release(5, 1));
        desk.tick(51);
        Check.noElement("release(0, 0), ended of silence", () -> desk.release(0, 0));
    }

    private static void noSuchLock() {
        Check.sentence("else IllegalArgumentException if there is no such lock");
        LeaseDesk desk = Check.deskWith(1);
        for (int lock = 0; lock < 4; lock++) {
            desk.acquire(0, lock, 10);
        }
        for (int lock : Outside.LOCKS) {
            Check.badArgument("release(0, " + lock + ")", () -> desk.release(0, lock));
        }
        for (int lock = 0; lock < 4; lock++) {
            Check.lease("after that", desk, lock, 0, 1, 10);
            desk.release(0, lock);
            Check.free("released", desk, lock, 1);
        }
    }

    private static void doesNotHoldAFreeLock() {
        Check.sentence("else IllegalStateException if the session does not hold it. (It is free.)");
        LeaseDesk desk = Check.deskWith(6);
        for (int lock = 0; lock < 4; lock++) {
            int free = lock;
            Check.badState("release(0, " + lock + ")", () -> desk.release(0, free));
            Check.badState("release(5, " + lock + ")", () -> desk.release(5, free));
        }
    }

    private static void doesNotHoldALentLock() {
        Check.sentence("else IllegalStateException if the session does not hold it. (Another does.)");
        LeaseDesk desk = Check.deskWith(3);
        desk.acquire(0, 0, 10);
        desk.acquire(1, 0, 20);
        Check.badState("release(1, 0), which waits", () -> desk.release(1, 0));
        Check.badState("release(2, 0), a stranger", () -> desk.release(2, 0));
        Check.lease("after that", desk, 0, 0, 1, 10);
        Check.row("after that", desk, 0, 1);
    }

    private static void holdsItNoMore() {
        Check.sentence("else IllegalStateException if the session does not hold it. (It did.)");
        LeaseDesk desk = Check.deskWith(2);
        desk.acquire(0, 0, 10);
        desk.acquire(1, 0, 20);
        desk.release(0, 0);
        Check.badState("release(0, 0) again", () -> desk.release(0, 0));
        desk.tick(20);
        Check.badState("release(1, 0) at the lease's end", () -> desk.release(1, 0));
        Check.free("after that", desk, 0, 2);
    }

    private static void theSessionCountsFirst() {
        Check.sentence("NoSuchElementException if the session is not open; else");
        LeaseDesk desk = Check.deskWith(5);
        int[] notOpen = {5, 6, -1, Integer.MIN_VALUE, Integer.MAX_VALUE};
        for (int slot : notOpen) {
            for (int lock : Outside.LOCKS) {
                Check.noElement("release(" + slot + ", " + lock + ")", () -> desk.release(slot, lock));
            }
        }
    }

    private static void theLockCountsBeforeTheHolding() {
        Check.sentence("else IllegalArgumentException if there is no such lock; else");
        LeaseDesk desk = Check.deskWith(1);
        Check.badArgument("release(0, 4) by one that holds none", () -> desk.release(0, 4));
        Check.badArgument("release(0, -1) by one that holds none", () -> desk.release(0, -1));
        Check.badState("release(0, 3) by one that holds none", () -> desk.release(0, 3));
    }
}

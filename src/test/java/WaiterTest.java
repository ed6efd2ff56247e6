/** Promise 13: waiter, and what "Terms" says of the rows. */
public final class WaiterTest {
    public static void main(String[] args) {
        theKthSession();
        eachLockHasItsOwn();
        atMostOneOfEachSession();
        noneOfTheHolder();
        noneOfTheHolderOnceGranted();
        noneInAnEmptyRow();
        noneBehindTheRow();
        noneBehindAFullRow();
        noneBehindARowThatWasLonger();
        noneBeforeTheRow();
        noSuchLock();
        Check.end();
    }

    private static void theKthSession() {
        Check.sentence("The k-th session (0 the first) in the lock's row");
        LeaseDesk desk = Check.deskWith(6);
        desk.acquire(2, 1, 10);
        int[] order = {5, 3, 0, 4, 1};
        for (int slot : order) {
            desk.acquire(slot, 1, 10);
        }
        for (int k = 0; k < 5; k++) {
            Check.same("waiter(1, " + k + ")", desk.waiter(1, k), order[k]);
        }
    }

    private static void eachLockHasItsOwn() {
        Check.sentence("in the lock's row (of each lock)");
        LeaseDesk desk = Check.deskWith(6);
        for (int lock = 0; lock < 4; lock++) {
            desk.acquire(lock, lock, 10);
            desk.acquire(lock + 1, lock, 10);
            desk.acquire(lock + 2, lock, 10);
        }
        for (int lock = 0; lock < 4; lock++) {
            Check.row("of its own", desk, lock, lock + 1, lock + 2);
        }
    }

    private static void atMostOneOfEachSession() {
        Check.sentence("at most one of each session");
        LeaseDesk desk = Check.deskWith(3);
        desk.acquire(0, 0, 10);
        for (int i = 0; i < 10; i++) {
            desk.acquire(1, 0, 10 + i);
            desk.acquire(2, 0, 20 + i);
        }
        Check.row("asked for ten times", desk, 0, 1, 2);
        desk.cancel(1, 0);
        Check.row("cancelled once", desk, 0, 2);
    }

    private static void noneOfTheHolder() {
        Check.sentence("none of the session that holds it.");
        LeaseDesk desk = Check.deskWith(2);
        for (int i = 0; i < 5; i++) {
            desk.acquire(0, 0, 10 + i);
        }
        Check.row("with a holder that asks on", desk, 0);
        desk.acquire(1, 0, 10);
        desk.acquire(0, 0, 50);
        Check.row("with a holder that asks on", desk, 0, 1);
    }

    private static void noneOfTheHolderOnceGranted() {
        Check.sentence("the request is in the row no more");
        LeaseDesk desk = Check.deskWith(4);
        for (int slot = 0; slot < 4; slot++) {
            desk.acquire(slot, 0, 10);
        }
        desk.release(0, 0);
        Check.row("after a release", desk, 0, 2, 3);
        desk.tick(10);
        Check.row("after a tick", desk, 0, 3);
        desk.close(2);
        Check.row("after a close", desk, 0);
    }

    private static void noneInAnEmptyRow() {
        Check.sentence("-1 if there is none. (An empty row.)");
        LeaseDesk desk = Check.deskWith(1);
        Check.row("of a free lock", desk, 0);
        desk.acquire(0, 0, 10);
        Check.row("of a lent lock", desk, 0);
    }

    private static void noneBehindTheRow() {
        Check.sentence("-1 if there is none. (Behind the last.)");
        LeaseDesk desk = Check.deskWith(4);
        for (int slot = 0; slot < 4; slot++) {
            desk.acquire(slot, 3, 10);
            Check.same("waiter(3, " + (slot - 1) + "), the last", desk.waiter(3, slot - 1), slot == 0 ? -1 : slot);
            Check.same("waiter(3, " + slot + "), one behind", desk.waiter(3, slot), -1);
        }
    }

    private static void noneBehindAFullRow() {
        Check.sentence("-1 if there is none. (Behind a full row.)");
        LeaseDesk desk = Scenes.full();
        int[] behind = {5, 6, 7, 8, 256, Integer.MAX_VALUE};
        for (int lock = 0; lock < 4; lock++) {
            Check.same("waiter(" + lock + ", 4)", desk.waiter(lock, 4), 5);
            for (int k : behind) {
                Check.same("waiter(" + lock + ", " + k + ")", desk.waiter(lock, k), -1);
            }
        }
    }

    private static void noneBehindARowThatWasLonger() {
        Check.sentence("-1 if there is none. (Where one stood before.)");
        LeaseDesk desk = Scenes.full();
        desk.cancel(5, 0);
        Check.same("waiter(0, 4) after a cancel", desk.waiter(0, 4), -1);
        desk.release(0, 0);
        Check.same("waiter(0, 3) after a release", desk.waiter(0, 3), -1);
        desk.close(3);
        Check.same("waiter(0, 2) after a close", desk.waiter(0, 2), -1);
        Check.row("after that", desk, 0, 2, 4);
    }

    private static void noneBeforeTheRow() {
        Check.sentence("-1 if there is none. (k below 0.)");
        LeaseDesk desk = Scenes.full();
        int[] before = {-1, -2, -5, -6, Integer.MIN_VALUE};
        for (int lock = 0; lock < 4; lock++) {
            for (int k : before) {
                Check.same("waiter(" + lock + ", " + k + ")", desk.waiter(lock, k), -1);
            }
        }
    }

    private static void noSuchLock() {
        Check.sentence("-1 if there is none. (No such lock.)");
        LeaseDesk desk = Scenes.full();
        for (int lock : Outside.LOCKS) {
            for (int k = -1; k <= 6; k++) {
                Check.same("waiter(" + lock + ", " + k + ")", desk.waiter(lock, k), -1);
            }
            Check.same("waiter(" + lock + ", MAX)", desk.waiter(lock, Integer.MAX_VALUE), -1);
            Check.same("waiter(" + lock + ", MIN)", desk.waiter(lock, Integer.MIN_VALUE), -1);
        }
    }
}

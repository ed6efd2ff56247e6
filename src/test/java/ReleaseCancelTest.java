/** Promises 8 (release) and 9 (cancel). */
public final class ReleaseCancelTest {
    private static final int[] NO_LOCKS = {-1, 4, Integer.MIN_VALUE, Integer.MAX_VALUE};
    private static final int[] NOT_OPEN = {-1, 4, 5, 6, Integer.MIN_VALUE, Integer.MAX_VALUE};

    public static void main(String[] args) {
        releaseFreesALockWithoutARow();
        releaseGrantsTheFirstOfTheRow();
        releaseIsNoSign();
        releaseThrows();
        cancelTakesTheRequestOut();
        cancelTouchesOneRowAlone();
        cancelRefuses();
        Check.end();
    }

    private static void releaseFreesALockWithoutARow() {
        LeaseDesk desk = Check.deskWith(1);
        desk.acquire(0, 0, 10);
        desk.acquire(0, 1, 10);
        desk.release(0, 0);
        Check.same("holder(0)", desk.holder(0), -1);
        Check.same("until(0)", desk.until(0), -1);
        Check.same("token(0) stays the latest", desk.token(0), 1);
        Check.same("holder(1)", desk.holder(1), 0);
        Check.same("tick(10) ends the other lease alone", desk.tick(10), 1);
    }

    private static void releaseGrantsTheFirstOfTheRow() {
        LeaseDesk desk = Check.deskWith(3);
        desk.rate(2, 11);
        desk.acquire(0, 0, 10);
        desk.acquire(2, 0, 8);
        desk.acquire(1, 0, 9);
        desk.tick(6);
        desk.release(0, 0);
        Check.same("holder(0)", desk.holder(0), 2);
        Check.same("token(0)", desk.token(0), 2);
        Check.same("until(0)", desk.until(0), 14);
        Check.same("waiter(0, 0)", desk.waiter(0, 0), 1);
        Check.same("waiter(0, 1)", desk.waiter(0, 1), -1);
        desk.tick(6);
        Check.same("believes(2, 0): 66 of 72 since the clock's 66", desk.believes(2, 0), true);
        desk.tick(1);
        Check.same("believes(2, 0): 77 of 72", desk.believes(2, 0), false);
        Check.same("acquire(0, 0, 5): the old holder may wait", desk.acquire(0, 0, 5), 0);
        Check.same("waiter(0, 1)", desk.waiter(0, 1), 0);
    }

    private static void releaseIsNoSign() {
        LeaseDesk desk = Check.deskWith(1);
        desk.acquire(0, 0, 60);
        desk.tick(50);
        desk.release(0, 0);
        desk.tick(1);
        Check.same("clock(0)", desk.clock(0), -1);
    }

    private static void releaseThrows() {
        LeaseDesk desk = Check.deskWith(3);
        desk.acquire(0, 0, 10);
        desk.acquire(1, 0, 10);
        for (int slot : NOT_OPEN) {
            Check.noElement("release(" + slot + ", 0)", () -> desk.release(slot, 0));
            Check.noElement("release(" + slot + ", 1), a free lock", () -> desk.release(slot, 1));
            Check.noElement("release(" + slot + ", 4): the session counts first", () -> desk.release(slot, 4));
        }
        for (int lock : NO_LOCKS) {
            Check.badArgument("release(0, " + lock + ")", () -> desk.release(0, lock));
        }
        Check.badState("release(1, 0), which waits", () -> desk.release(1, 0));
        Check.badState("release(2, 0), a stranger", () -> desk.release(2, 0));
        Check.badState("release(0, 1), a free lock", () -> desk.release(0, 1));
        Check.same("holder(0)", desk.holder(0), 0);
        desk.release(0, 0);
        Check.badState("release(0, 0) again", () -> desk.release(0, 0));
        Check.same("holder(0)", desk.holder(0), 1);
    }

    private static void cancelTakesTheRequestOut() {
        LeaseDesk desk = Check.deskWith(5);
        for (int slot = 0; slot < 5; slot++) {
            desk.acquire(slot, 3, 10 + slot);
        }
        Check.same("cancel(2, 3) from the middle", desk.cancel(2, 3), true);
        Check.same("cancel(2, 3) again", desk.cancel(2, 3), false);
        Check.same("waiter(3, 0)", desk.waiter(3, 0), 1);
        Check.same("waiter(3, 1)", desk.waiter(3, 1), 3);
        Check.same("waiter(3, 2)", desk.waiter(3, 2), 4);
        Check.same("waiter(3, 3)", desk.waiter(3, 3), -1);
        Check.same("cancel(1, 3), the first", desk.cancel(1, 3), true);
        Check.same("cancel(4, 3), the last", desk.cancel(4, 3), true);
        Check.same("waiter(3, 0)", desk.waiter(3, 0), 3);
        Check.same("waiter(3, 1)", desk.waiter(3, 1), -1);
        Check.same("holder(3)", desk.holder(3), 0);
        Check.same("acquire(2, 3, 77)", desk.acquire(2, 3, 77), 0);
        Check.same("waiter(3, 1), behind now", desk.waiter(3, 1), 2);
        desk.release(0, 3);
        Check.same("until(3): terms move with their sessions", desk.until(3), 13);
        desk.release(3, 3);
        Check.same("until(3)", desk.until(3), 77);
    }

    private static void cancelTouchesOneRowAlone() {
        LeaseDesk desk = Check.deskWith(2);
        desk.acquire(0, 0, 10);
        desk.acquire(0, 1, 10);
        desk.acquire(1, 0, 10);
        desk.acquire(1, 1, 10);
        Check.same("cancel(1, 0)", desk.cancel(1, 0), true);
        Check.same("waiter(0, 0)", desk.waiter(0, 0), -1);
        Check.same("waiter(1, 0)", desk.waiter(1, 0), 1);
        desk.tick(50);
        desk.cancel(1, 1);
        desk.tick(1);
        Check.same("clock(1): cancel is no sign", desk.clock(1), -1);
    }

    private static void cancelRefuses() {
        LeaseDesk desk = Check.deskWith(3);
        desk.acquire(0, 0, 10);
        desk.acquire(1, 0, 10);
        Check.same("cancel(0, 0), the holder", desk.cancel(0, 0), false);
        Check.same("cancel(2, 0), a stranger", desk.cancel(2, 0), false);
        Check.same("cancel(1, 1), another lock", desk.cancel(1, 1), false);
        for (int slot : NOT_OPEN) {
            Check.same("cancel(" + slot + ", 0)", desk.cancel(slot, 0), false);
        }
        for (int lock : NO_LOCKS) {
            Check.same("cancel(1, " + lock + ")", desk.cancel(1, lock), false);
        }
        Check.same("holder(0)", desk.holder(0), 0);
        Check.same("waiter(0, 0)", desk.waiter(0, 0), 1);
    }
}

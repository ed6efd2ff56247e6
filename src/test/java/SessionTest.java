/** Promises 2 (open), 3 (close), 4 (keep), 5 (rate), 14 (time) and 15 (clock). */
public final class SessionTest {
    private static final int[] NO_SLOTS = {-1, 6, 7, Integer.MIN_VALUE, Integer.MAX_VALUE};

    public static void main(String[] args) {
        openTakesTheLeastFreeSlot();
        openThrowsWhenAllAreTaken();
        openStartsAnew();
        closeCountsTheLocksHeld();
        closeTakesRequestsOutOfAllRows();
        closePassesLocksOn();
        closeThrowsIfNotOpen();
        keepIsASign();
        keepThrowsIfNotOpen();
        rateMovesTheClock();
        rateRefuses();
        clockOfNone();
        timeGoesOnByTickAlone();
        Check.end();
    }

    private static void openTakesTheLeastFreeSlot() {
        LeaseDesk desk = Check.deskWith(6);
        desk.close(4);
        desk.close(1);
        desk.close(3);
        Check.same("open() after closing 4, 1, 3", desk.open(), 1);
        Check.same("open()", desk.open(), 3);
        Check.same("open()", desk.open(), 4);
    }

    private static void openThrowsWhenAllAreTaken() {
        LeaseDesk desk = Check.deskWith(6);
        String before = Check.view(desk);
        Check.badState("open() with six open", desk::open);
        Check.same("the view after it", Check.view(desk), before);
    }

    private static void openStartsAnew() {
        LeaseDesk desk = Check.deskWith(1);
        desk.rate(0, 11);
        desk.tick(30);
        desk.close(0);
        desk.open();
        Check.same("clock(0) of a new session", desk.clock(0), 0);
        desk.tick(50);
        Check.same("clock(0) at rate 10, 50 after its sign", desk.clock(0), 500);
        desk.tick(1);
        Check.same("clock(0), 51 after its sign", desk.clock(0), -1);
    }

    private static void closeCountsTheLocksHeld() {
        LeaseDesk desk = Check.deskWith(3);
        for (int lock = 0; lock < 4; lock++) {
            desk.acquire(0, lock, 10);
        }
        desk.acquire(1, 2, 10);
        Check.same("close(0) with four locks", desk.close(0), 4);
        Check.same("close(1) with one lock", desk.close(1), 1);
        Check.same("close(2) with none", desk.close(2), 0);
        Check.same("clock(0)", desk.clock(0), -1);
        Check.same("holder(2)", desk.holder(2), -1);
    }

    private static void closeTakesRequestsOutOfAllRows() {
        LeaseDesk desk = Check.deskWith(4);
        desk.acquire(0, 0, 10);
        desk.acquire(0, 3, 10);
        for (int slot = 1; slot < 4; slot++) {
            desk.acquire(slot, 0, 10);
            desk.acquire(slot, 3, 10);
        }
        Check.same("close(2), which only waits", desk.close(2), 0);
        for (int lock = 0; lock < 4; lock += 3) {
            Check.same("waiter(lock, 0)", desk.waiter(lock, 0), 1);
            Check.same("waiter(lock, 1)", desk.waiter(lock, 1), 3);
            Check.same("waiter(lock, 2)", desk.waiter(lock, 2), -1);
        }
        Check.same("open()", desk.open(), 2);
        Check.same("waiter(0, 2) is not the new session", desk.waiter(0, 2), -1);
    }

    private static void closePassesLocksOn() {
        LeaseDesk desk = Check.deskWith(3);
        desk.acquire(0, 1, 10);
        desk.acquire(0, 2, 10);
        desk.acquire(2, 1, 33);
        desk.acquire(1, 1, 44);
        desk.tick(4);
        Check.same("close(0)", desk.close(0), 2);
        Check.same("holder(1)", desk.holder(1), 2);
        Check.same("token(1)", desk.token(1), 2);
        Check.same("until(1)", desk.until(1), 37);
        Check.same("waiter(1, 0)", desk.waiter(1, 0), 1);
        Check.same("waiter(1, 1)", desk.waiter(1, 1), -1);
        Check.same("holder(2)", desk.holder(2), -1);
        Check.same("token(2)", desk.token(2), 1);
    }

    private static void closeThrowsIfNotOpen() {
        LeaseDesk desk = Check.deskWith(2);
        for (int slot : NO_SLOTS) {
            Check.noElement("close(" + slot + ")", () -> desk.close(slot));
        }
        desk.close(1);
        Check.noElement("close(1) again", () -> desk.close(1));
        Check.noElement("close(5), never open", () -> desk.close(5));
    }

    private static void keepIsASign() {
        LeaseDesk desk = Check.deskWith(2);
        desk.tick(40);
        desk.keep(0);
        desk.tick(11);
        Check.same("clock(0), kept", desk.clock(0), 510);
        Check.same("clock(1), not kept", desk.clock(1), -1);
        desk.tick(39);
        Check.same("clock(0), 50 after its sign", desk.clock(0), 900);
        desk.tick(1);
        Check.same("clock(0), 51 after its sign", desk.clock(0), -1);
    }

    private static void keepThrowsIfNotOpen() {
        LeaseDesk desk = Check.deskWith(1);
        for (int slot : NO_SLOTS) {
            Check.noElement("keep(" + slot + ")", () -> desk.keep(slot));
        }
        Check.noElement("keep(1), never open", () -> desk.keep(1));
        desk.close(0);
        Check.noElement("keep(0), closed", () -> desk.keep(0));
    }

    private static void rateMovesTheClock() {
        LeaseDesk desk = Check.deskWith(4);
        Check.same("rate(0, 9)", desk.rate(0, 9), true);
        Check.same("rate(1, 10)", desk.rate(1, 10), true);
        Check.same("rate(2, 11)", desk.rate(2, 11), true);
        desk.tick(7);
        Check.same("clock(0)", desk.clock(0), 63);
        Check.same("clock(1)", desk.clock(1), 70);
        Check.same("clock(2)", desk.clock(2), 77);
        Check.same("clock(3), rate never set", desk.clock(3), 70);
        desk.rate(0, 11);
        Check.same("clock(0) right after a new rate", desk.clock(0), 63);
        desk.tick(2);
        Check.same("clock(0) goes on from there", desk.clock(0), 85);
    }

    private static void rateRefuses() {
        LeaseDesk desk = Check.deskWith(1);
        int[] noRates = {8, 12, 0, -10, Integer.MIN_VALUE, Integer.MAX_VALUE};
        desk.rate(0, 11);
        for (int r : noRates) {
            Check.same("rate(0, " + r + ")", desk.rate(0, r), false);
        }
        for (int slot : NO_SLOTS) {
            Check.same("rate(" + slot + ", 10)", desk.rate(slot, 10), false);
        }
        Check.same("rate(3, 10), not open", desk.rate(3, 10), false);
        desk.tick(1);
        Check.same("clock(0) at the rate it had", desk.clock(0), 11);
        desk.tick(49);
        desk.rate(0, 9);
        desk.tick(1);
        Check.same("clock(0): rate is no sign", desk.clock(0), -1);
    }

    private static void clockOfNone() {
        LeaseDesk desk = Check.deskWith(1);
        for (int slot : NO_SLOTS) {
            Check.same("clock(" + slot + ")", desk.clock(slot), -1);
        }
        Check.same("clock(0), just open", desk.clock(0), 0);
        Check.same("clock(1), not open", desk.clock(1), -1);
        desk.close(0);
        Check.same("clock(0), closed", desk.clock(0), -1);
    }

    private static void timeGoesOnByTickAlone() {
        LeaseDesk desk = Check.deskWith(1);
        desk.acquire(0, 0, 5);
        desk.keep(0);
        desk.write(0, 1, 1);
        Check.same("time()", desk.time(), 0);
        desk.tick(0);
        Check.same("time() after tick(0)", desk.time(), 0);
        desk.tick(100);
        desk.tick(1);
        Check.same("time() after tick(100), tick(1)", desk.time(), 101);
        for (int i = 0; i < 500; i++) {
            desk.tick(100);
        }
        Check.same("time() after 500 times tick(100) more", desk.time(), 50101);
    }
}

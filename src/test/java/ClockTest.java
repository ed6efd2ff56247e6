/** Promise 15: clock. */
public final class ClockTest {
    public static void main(String[] args) {
        zeroWhenOpened();
        rateTimesD();
        aTenthTooFastOrTooSlow();
        eachSessionHasItsOwn();
        byTickAlone();
        asFarAsTheCallsAllow();
        notOpenBecauseThereIsNoSlot();
        notOpenBecauseTheSlotIsFree();
        Check.end();
    }

    private static void zeroWhenOpened() {
        Check.sentence("a CLOCK: 0 when it is opened");
        LeaseDesk desk = new LeaseDesk();
        desk.tick(40);
        desk.open();
        Check.same("clock(0), just opened at 40", desk.clock(0), 0);
        desk.tick(10);
        desk.close(0);
        desk.open();
        Check.same("clock(0), opened again", desk.clock(0), 0);
        desk.tick(51);
        desk.open();
        Check.same("clock(0), opened after a silence", desk.clock(0), 0);
    }

    private static void rateTimesD() {
        Check.sentence("when the time goes on by d, it goes on by its rate times d");
        int[] steps = {0, 1, 49, 50};
        for (int r = 9; r <= 11; r++) {
            for (int d : steps) {
                LeaseDesk desk = Check.deskWith(1);
                desk.rate(0, r);
                desk.tick(d);
                Check.same("clock(0) after tick(" + d + ") at rate " + r, desk.clock(0), r * d);
            }
        }
    }

    private static void aTenthTooFastOrTooSlow() {
        Check.sentence("Clients' clocks may run a tenth too fast or too slow");
        LeaseDesk desk = Check.deskWith(3);
        desk.rate(1, 11);
        desk.rate(2, 9);
        for (int time = 10; time <= 500; time += 10) {
            Check.tickKeeping(desk, 10, 0, 1, 2);
            Check.same("clock(0), right", desk.clock(0), 10 * time);
            Check.same("clock(1), a tenth more", desk.clock(1), 10 * time + time);
            Check.same("clock(2), a tenth less", desk.clock(2), 10 * time - time);
        }
    }

    private static void eachSessionHasItsOwn() {
        Check.sentence("The clock of a session");
        LeaseDesk desk = new LeaseDesk();
        for (int slot = 0; slot < 6; slot++) {
            desk.open();
            desk.rate(slot, 9 + slot % 3);
            desk.tick(slot + 1);
        }
        int[] due = {9 * 21, 10 * 20, 11 * 18, 9 * 15, 10 * 11, 11 * 6};
        for (int slot = 0; slot < 6; slot++) {
            Check.same("clock(" + slot + ")", desk.clock(slot), due[slot]);
        }
    }

    private static void byTickAlone() {
        Check.sentence("when the time goes on by d, it goes on (and not else)");
        LeaseDesk desk = Check.deskWith(2);
        desk.tick(3);
        desk.keep(0);
        desk.acquire(0, 0, 10);
        desk.acquire(0, 0, 20);
        desk.acquire(1, 0, 10);
        desk.release(0, 0);
        desk.rate(0, 9);
        desk.tick(101);
        desk.tick(-1);
        Check.same("clock(0)", desk.clock(0), 30);
        Check.same("clock(1)", desk.clock(1), 30);
    }

    private static void asFarAsTheCallsAllow() {
        Check.sentence("The clock of a session (after as long as the calls allow)");
        LeaseDesk desk = Check.deskWith(1);
        desk.rate(0, 11);
        for (int i = 0; i < 254; i++) {
            Check.tickKeeping(desk, 50, 0);
        }
        Check.same("clock(0)", desk.clock(0), 254 * 50 * 11);
    }

    private static void notOpenBecauseThereIsNoSlot() {
        Check.sentence("-1 if it is not open. (No such slot.)");
        LeaseDesk desk = Check.deskWith(6);
        desk.tick(5);
        for (int slot : Outside.SLOTS) {
            Check.same("clock(" + slot + ")", desk.clock(slot), -1);
        }
        Check.same("clock(0), the least slot", desk.clock(0), 50);
        Check.same("clock(5), the greatest slot", desk.clock(5), 50);
    }

    private static void notOpenBecauseTheSlotIsFree() {
        Check.sentence("-1 if it is not open. (A free slot.)");
        LeaseDesk desk = Check.deskWith(5);
        desk.tick(5);
        desk.close(2);
        Check.same("clock(2), closed", desk.clock(2), -1);
        Check.same("clock(5), never opened", desk.clock(5), -1);
        desk.tick(45);
        Check.same("clock(0), 50 after its sign", desk.clock(0), 500);
        desk.tick(1);
        Check.same("clock(0), ended of silence", desk.clock(0), -1);
    }
}

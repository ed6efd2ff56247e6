/** Promise 5: rate. */
public final class RateTest {
    public static void main(String[] args) {
        theRateBecomesR();
        fromNowOn();
        ofThisSessionAlone();
        isNoSign();
        notOpenBecauseThereIsNoSlot();
        notOpenBecauseTheSlotIsFree();
        notARate();
        neitherSessionNorRate();
        Check.end();
    }

    private static void theRateBecomesR() {
        Check.sentence("The rate of the session becomes r (9, 10 and 11)");
        for (int r = 9; r <= 11; r++) {
            LeaseDesk desk = Check.deskWith(1);
            Check.same("rate(0, " + r + ")", desk.rate(0, r), true);
            desk.tick(1);
            Check.same("clock(0) at rate " + r, desk.clock(0), r);
            desk.tick(49);
            Check.same("clock(0) at rate " + r, desk.clock(0), 50 * r);
        }
    }

    private static void fromNowOn() {
        Check.sentence("The rate of the session becomes r (the clock stays)");
        LeaseDesk desk = Check.deskWith(1);
        desk.tick(7);
        Check.same("rate(0, 11)", desk.rate(0, 11), true);
        Check.same("clock(0)", desk.clock(0), 70);
        desk.tick(2);
        Check.same("clock(0)", desk.clock(0), 92);
        Check.same("rate(0, 9)", desk.rate(0, 9), true);
        desk.tick(3);
        Check.same("clock(0)", desk.clock(0), 119);
        Check.same("rate(0, 9), as it is", desk.rate(0, 9), true);
        Check.same("rate(0, 10)", desk.rate(0, 10), true);
        desk.tick(1);
        Check.same("clock(0)", desk.clock(0), 129);
    }

    private static void ofThisSessionAlone() {
        Check.sentence("The rate of the session becomes r (not that of others)");
        LeaseDesk desk = Check.deskWith(6);
        Check.same("rate(0, 9)", desk.rate(0, 9), true);
        Check.same("rate(5, 11)", desk.rate(5, 11), true);
        desk.tick(10);
        int[] due = {90, 100, 100, 100, 100, 110};
        for (int slot = 0; slot < 6; slot++) {
            Check.same("clock(" + slot + ")", desk.clock(slot), due[slot]);
        }
    }

    private static void isNoSign() {
        Check.sentence("The rate of the session becomes r (its sign stays)");
        LeaseDesk desk = Check.deskWith(1);
        desk.tick(50);
        Check.same("rate(0, 11)", desk.rate(0, 11), true);
        desk.tick(1);
        Check.same("clock(0), 51 after its opening", desk.clock(0), -1);
    }

    private static void notOpenBecauseThereIsNoSlot() {
        Check.sentence("false if it is not open (no such slot)");
        LeaseDesk desk = Check.deskWith(6);
        for (int slot : Outside.SLOTS) {
            Check.same("rate(" + slot + ", 11)", desk.rate(slot, 11), false);
        }
        desk.tick(1);
        for (int slot = 0; slot < 6; slot++) {
            Check.same("clock(" + slot + ")", desk.clock(slot), 10);
        }
    }

    private static void notOpenBecauseTheSlotIsFree() {
        Check.sentence("false if it is not open (a free slot)");
        LeaseDesk desk = Check.deskWith(2);
        desk.close(0);
        Check.same("rate(0, 11), closed", desk.rate(0, 11), false);
        Check.same("rate(5, 11), never opened", desk.rate(5, 11), false);
        desk.open();
        desk.tick(51);
        Check.same("rate(1, 11), ended of silence", desk.rate(1, 11), false);
    }

    private static void notARate() {
        Check.sentence("or r is not 9 .. 11");
        for (int r = 9; r <= 11; r++) {
            LeaseDesk desk = Check.deskWith(1);
            desk.rate(0, r);
            for (int none : Outside.RATES) {
                Check.same("rate(0, " + none + ")", desk.rate(0, none), false);
                desk.tick(1);
            }
            Check.same("clock(0) at the rate it had", desk.clock(0), r * Outside.RATES.length);
        }
    }

    private static void neitherSessionNorRate() {
        Check.sentence("false if it is not open or r is not 9 .. 11 (both)");
        LeaseDesk desk = Check.deskWith(5);
        Check.same("rate(5, 12)", desk.rate(5, 12), false);
        Check.same("rate(6, 8)", desk.rate(6, 8), false);
        Check.same("rate(-1, 0)", desk.rate(-1, 0), false);
    }
}

/** Promise 4: keep. */
public final class KeepTest {
    public static void main(String[] args) {
        theSignIsAtThisTime();
        atTheLastMoment();
        againAndAgain();
        ofThisSessionAlone();
        doesNothingElse();
        notOpenBecauseThereIsNoSlot();
        notOpenBecauseTheSlotIsFree();
        Check.end();
    }

    private static void theSignIsAtThisTime() {
        Check.sentence("The sign of the session is at this time.");
        LeaseDesk desk = Check.deskWith(1);
        desk.tick(40);
        desk.keep(0);
        desk.tick(50);
        Check.same("clock(0), 50 after its sign", desk.clock(0), 900);
        desk.tick(1);
        Check.same("clock(0), 51 after its sign", desk.clock(0), -1);
    }

    private static void atTheLastMoment() {
        Check.sentence("The sign of the session is at this time. (50 after the one before.)");
        LeaseDesk desk = Check.deskWith(1);
        desk.tick(50);
        desk.keep(0);
        desk.tick(1);
        Check.same("clock(0), kept just in time", desk.clock(0), 510);
        desk.tick(49);
        Check.same("clock(0), 50 after its sign", desk.clock(0), 1000);
        desk.tick(1);
        Check.same("clock(0), 51 after its sign", desk.clock(0), -1);
    }

    private static void againAndAgain() {
        Check.sentence("The sign of the session is at this time. (The latest counts.)");
        LeaseDesk desk = Check.deskWith(1);
        for (int i = 1; i <= 100; i++) {
            Check.tickKeeping(desk, 50, 0);
            Check.same("clock(0)", desk.clock(0), 500 * i);
        }
    }

    private static void ofThisSessionAlone() {
        Check.sentence("The sign of the session is at this time. (Not that of others.)");
        for (int kept = 0; kept < 6; kept++) {
            LeaseDesk desk = Check.deskWith(6);
            desk.tick(1);
            desk.keep(kept);
            desk.tick(50);
            for (int slot = 0; slot < 6; slot++) {
                Check.same("clock(" + slot + ") after keep(" + kept + ")", desk.clock(slot), slot == kept ? 510 : -1);
            }
        }
    }

    private static void doesNothingElse() {
        Check.sentence("The sign of the session is at this time. (Nothing else is.)");
        LeaseDesk left = Scenes.busy();
        LeaseDesk kept = Scenes.busy();
        kept.keep(0);
        kept.keep(5);
        Check.same("all answers", Probe.QUESTIONS.show(kept), Probe.QUESTIONS.show(left));
    }

    private static void notOpenBecauseThereIsNoSlot() {
        Check.sentence("NoSuchElementException if it is not open. (No such slot.)");
        LeaseDesk desk = Check.deskWith(6);
        for (int slot : Outside.SLOTS) {
            Check.noElement("keep(" + slot + ")", () -> desk.keep(slot));
        }
        desk.keep(0);
        desk.keep(5);
    }

    private static void notOpenBecauseTheSlotIsFree() {
        Check.sentence("NoSuchElementException if it is not open. (A free slot.)");
        LeaseDesk desk = Check.deskWith(3);
        desk.close(1);
        Check.noElement("keep(1), closed", () -> desk.keep(1));
        Check.noElement("keep(3), never opened", () -> desk.keep(3));
        Check.noElement("keep(5), never opened", () -> desk.keep(5));
        desk.tick(51);
        Check.noElement("keep(0), ended of silence", () -> desk.keep(0));
    }
}

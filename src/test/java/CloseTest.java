/** Promise 3: close. */
public final class CloseTest {
    public static void main(String[] args) {
        theSlotIsFree();
        heldNone();
        heldSome();
        heldAll();
        leasesOfThePastDoNotCount();
        requestsAreTakenOutOfAllRows();
        requestsAtEachPlaceOfAFullRow();
        locksArePassedOn();
        locksArePassedOnToWhomIsLeft();
        holdsAndWaits();
        notOpenBecauseThereIsNoSlot();
        notOpenBecauseNeverOpened();
        notOpenBecauseClosed();
        notOpenBecauseSilent();
        Check.end();
    }

    private static void theSlotIsFree() {
        Check.sentence("Ends the session in this slot");
        LeaseDesk desk = Check.deskWith(6);
        desk.close(0);
        desk.close(5);
        int[] due = {-1, 0, 0, 0, 0, -1};
        for (int slot = 0; slot < 6; slot++) {
            Check.same("clock(" + slot + ")", desk.clock(slot), due[slot]);
        }
    }

    private static void heldNone() {
        Check.sentence("how many locks it held (none)");
        LeaseDesk desk = Check.deskWith(3);
        desk.acquire(0, 0, 10);
        desk.acquire(1, 0, 10);
        Check.same("close(2), which asked for none", desk.close(2), 0);
        Check.same("close(1), which only waits", desk.close(1), 0);
    }

    private static void heldSome() {
        Check.sentence("how many locks it held");
        LeaseDesk desk = Check.deskWith(6);
        desk.acquire(0, 3, 10);
        desk.acquire(5, 0, 10);
        desk.acquire(5, 2, 10);
        desk.acquire(5, 3, 10);
        Check.same("close(5) with 0 and 2", desk.close(5), 2);
        Check.same("close(0) with 3", desk.close(0), 1);
    }

    private static void heldAll() {
        Check.sentence("how many locks it held (all)");
        LeaseDesk desk = Check.deskWith(1);
        for (int lock = 0; lock < 4; lock++) {
            desk.acquire(0, lock, 10);
        }
        Check.same("close(0) with four", desk.close(0), 4);
        for (int lock = 0; lock < 4; lock++) {
            Check.free("after the close", desk, lock, 1);
        }
    }

    private static void leasesOfThePastDoNotCount() {
        Check.sentence("how many locks it held (not: has held)");
        LeaseDesk desk = Check.deskWith(1);
        desk.acquire(0, 0, 10);
        desk.acquire(0, 1, 2);
        desk.acquire(0, 2, 10);
        desk.release(0, 0);
        desk.tick(2);
        Check.same("close(0)", desk.close(0), 1);
    }

    private static void requestsAreTakenOutOfAllRows() {
        Check.sentence("its requests are taken out of all rows");
        LeaseDesk desk = Scenes.full();
        Check.same("close(3), which waits in four rows", desk.close(3), 0);
        for (int lock = 0; lock < 4; lock++) {
            Check.row("after close(3)", desk, lock, 1, 2, 4, 5);
            Check.same("holder(" + lock + ")", desk.holder(lock), 0);
        }
        Check.same("open()", desk.open(), 3);
        Check.row("with a new session in slot 3", desk, 2, 1, 2, 4, 5);
        Check.same("acquire(3, 2, 1)", desk.acquire(3, 2, 1), 0);
        Check.row("as the new session asks", desk, 2, 1, 2, 4, 5, 3);
    }

    private static void requestsAtEachPlaceOfAFullRow() {
        Check.sentence("its requests are taken out of all rows (from each place)");
        int[][] left = {{2, 3, 4, 5}, {1, 3, 4, 5}, {1, 2, 4, 5}, {1, 2, 3, 5}, {1, 2, 3, 4}};
        for (int slot = 1; slot < 6; slot++) {
            LeaseDesk desk = Scenes.full();
            desk.close(slot);
            Check.row("after close(" + slot + ")", desk, 3, left[slot - 1]);
            for (int next : left[slot - 1]) {
                desk.release(desk.holder(3), 3);
                Check.same("holder(3) after close(" + slot + ")", desk.holder(3), next);
                Check.same("until(3): terms stay with their sessions", desk.until(3), 1 + 10 + next + 3);
            }
            desk.release(desk.holder(3), 3);
            Check.same("holder(3) behind the row", desk.holder(3), -1);
        }
    }

    private static void locksArePassedOn() {
        Check.sentence("then the locks that it holds, from the least, are passed on");
        LeaseDesk desk = Check.deskWith(3);
        desk.acquire(0, 1, 10);
        desk.acquire(0, 2, 10);
        desk.acquire(2, 1, 33);
        desk.acquire(1, 1, 44);
        desk.tick(4);
        Check.same("close(0)", desk.close(0), 2);
        Check.lease("after close(0)", desk, 1, 2, 2, 37);
        Check.row("after close(0)", desk, 1, 1);
        Check.free("after close(0)", desk, 2, 1);
    }

    private static void locksArePassedOnToWhomIsLeft() {
        Check.sentence("then the locks that it holds, from the least, are passed on (one after the other)");
        LeaseDesk desk = Scenes.full();
        for (int slot = 0; slot < 6; slot++) {
            for (int lock = 0; lock < 4; lock++) {
                Check.lease("before close(" + slot + ")", desk, lock, slot, slot + 1,
                    (slot == 0 ? 0 : 1) + 10 + slot + lock);
            }
            Check.same("close(" + slot + ")", desk.close(slot), 4);
        }
        for (int lock = 0; lock < 4; lock++) {
            Check.free("with all closed", desk, lock, 6);
        }
    }

    private static void holdsAndWaits() {
        Check.sentence("its requests are taken out of all rows; then the locks that it holds [..] are passed on");
        LeaseDesk desk = Check.deskWith(2);
        desk.acquire(0, 0, 10);
        desk.acquire(0, 2, 10);
        desk.acquire(1, 1, 10);
        desk.acquire(1, 3, 10);
        desk.acquire(0, 1, 20);
        desk.acquire(0, 3, 20);
        desk.acquire(1, 0, 30);
        Check.same("close(0)", desk.close(0), 2);
        Check.lease("after close(0)", desk, 0, 1, 2, 30);
        Check.free("after close(0)", desk, 2, 1);
        Check.lease("after close(0)", desk, 1, 1, 1, 10);
        Check.row("after close(0)", desk, 1);
        Check.row("after close(0)", desk, 3);
        Check.same("close(1)", desk.close(1), 3);
        for (int lock = 0; lock < 4; lock++) {
            Check.same("holder(" + lock + ")", desk.holder(lock), -1);
        }
    }

    private static void notOpenBecauseThereIsNoSlot() {
        Check.sentence("NoSuchElementException if it is not open. (No such slot.)");
        LeaseDesk desk = Check.deskWith(6);
        for (int slot : Outside.SLOTS) {
            Check.noElement("close(" + slot + ")", () -> desk.close(slot));
        }
        Check.same("close(0), the least slot", desk.close(0), 0);
        Check.same("close(5), the greatest slot", desk.close(5), 0);
    }

    private static void notOpenBecauseNeverOpened() {
        Check.sentence("NoSuchElementException if it is not open. (Never opened.)");
        LeaseDesk desk = Check.deskWith(1);
        for (int slot = 1; slot < 6; slot++) {
            int none = slot;
            Check.noElement("close(" + slot + ")", () -> desk.close(none));
        }
    }

    private static void notOpenBecauseClosed() {
        Check.sentence("NoSuchElementException if it is not open. (Closed before.)");
        LeaseDesk desk = Check.deskWith(2);
        desk.close(1);
        Check.noElement("close(1) again", () -> desk.close(1));
        Check.same("close(0)", desk.close(0), 0);
        Check.noElement("close(0) again", () -> desk.close(0));
    }

    private static void notOpenBecauseSilent() {
        Check.sentence("NoSuchElementException if it is not open. (Ended of silence.)");
        LeaseDesk desk = Check.deskWith(1);
        desk.tick(51);
        Check.noElement("close(0)", () -> desk.close(0));
    }
}

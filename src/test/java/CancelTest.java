/** Promise 9: cancel. */
public final class CancelTest {
    public static void main(String[] args) {
        theOnlyOne();
        eachPlaceOfAFullRow();
        allOfAFullRow();
        thisRowAlone();
        isNoSign();
        maySoonWaitAgain();
        isNotGrantedThen();
        noneInAnEmptyRow();
        noneOfTheHolder();
        noneOfAStranger();
        noneInAnotherRow();
        noneASecondTime();
        noneOnceGranted();
        noneOfASessionThatIsNotOpen();
        noneWithoutASlot();
        noneWithoutALock();
        Check.end();
    }

    private static void theOnlyOne() {
        Check.sentence("Takes the session's request out of the lock's row");
        LeaseDesk desk = Check.deskWith(6);
        desk.acquire(0, 3, 10);
        desk.acquire(5, 3, 10);
        Check.same("cancel(5, 3)", desk.cancel(5, 3), true);
        Check.row("cancelled", desk, 3);
        Check.lease("as it was", desk, 3, 0, 1, 10);
    }

    private static void eachPlaceOfAFullRow() {
        Check.sentence("Takes the session's request out of the lock's row (from each place)");
        int[][] left = {{2, 3, 4, 5}, {1, 3, 4, 5}, {1, 2, 4, 5}, {1, 2, 3, 5}, {1, 2, 3, 4}};
        for (int slot = 1; slot < 6; slot++) {
            LeaseDesk desk = Scenes.full();
            Check.same("cancel(" + slot + ", 1)", desk.cancel(slot, 1), true);
            Check.row("after cancel(" + slot + ", 1)", desk, 1, left[slot - 1]);
            for (int next : left[slot - 1]) {
                desk.release(desk.holder(1), 1);
                Check.same("holder(1) after cancel(" + slot + ", 1)", desk.holder(1), next);
                Check.same("until(1): terms stay with their sessions", desk.until(1), 1 + 10 + next + 1);
            }
        }
    }

    private static void allOfAFullRow() {
        Check.sentence("Takes the session's request out of the lock's row (until it is empty, and it fills again)");
        LeaseDesk desk = Scenes.full();
        int[] order = {3, 1, 5, 2, 4};
        for (int slot : order) {
            Check.same("cancel(" + slot + ", 0)", desk.cancel(slot, 0), true);
        }
        Check.row("all cancelled", desk, 0);
        for (int slot : order) {
            Check.same("acquire(" + slot + ", 0, 1)", desk.acquire(slot, 0, 1), 0);
        }
        Check.row("all asked again", desk, 0, order);
    }

    private static void thisRowAlone() {
        Check.sentence("out of the lock's row (not of others)");
        LeaseDesk desk = Scenes.full();
        Check.same("cancel(2, 3)", desk.cancel(2, 3), true);
        for (int lock = 0; lock < 3; lock++) {
            Check.row("as it was", desk, lock, 1, 2, 3, 4, 5);
        }
        Check.row("cancelled", desk, 3, 1, 3, 4, 5);
    }

    private static void isNoSign() {
        Check.sentence("Takes the session's request out (its sign stays)");
        LeaseDesk desk = Check.deskWith(2);
        desk.acquire(0, 0, 60);
        desk.acquire(1, 0, 60);
        desk.tick(50);
        Check.same("cancel(1, 0)", desk.cancel(1, 0), true);
        desk.tick(1);
        Check.same("clock(1)", desk.clock(1), -1);
    }

    private static void maySoonWaitAgain() {
        Check.sentence("else it is put behind the row (one that cancelled)");
        LeaseDesk desk = Check.deskWith(4);
        for (int slot = 0; slot < 4; slot++) {
            desk.acquire(slot, 0, 10 + slot);
        }
        Check.same("cancel(1, 0)", desk.cancel(1, 0), true);
        Check.same("acquire(1, 0, 77)", desk.acquire(1, 0, 77), 0);
        Check.row("asked again", desk, 0, 2, 3, 1);
        desk.release(0, 0);
        desk.release(2, 0);
        desk.release(3, 0);
        Check.lease("by the new request", desk, 0, 1, 4, 77);
    }

    private static void isNotGrantedThen() {
        Check.sentence("Takes the session's request out of the lock's row (so it is not granted)");
        LeaseDesk desk = Check.deskWith(2);
        desk.acquire(0, 0, 10);
        desk.acquire(1, 0, 10);
        desk.cancel(1, 0);
        Check.same("tick(10)", desk.tick(10), 1);
        Check.free("with nobody waiting", desk, 0, 1);
    }

    private static void noneInAnEmptyRow() {
        Check.sentence("false if there is none. (An empty row.)");
        LeaseDesk desk = Check.deskWith(2);
        Check.same("cancel(1, 0), a free lock", desk.cancel(1, 0), false);
        desk.acquire(0, 0, 10);
        Check.same("cancel(1, 0), a lent lock", desk.cancel(1, 0), false);
    }

    private static void noneOfTheHolder() {
        Check.sentence("false if there is none. (The holder does not wait.)");
        LeaseDesk desk = Check.deskWith(2);
        desk.acquire(0, 0, 10);
        Check.same("cancel(0, 0), an empty row", desk.cancel(0, 0), false);
        desk.acquire(1, 0, 10);
        Check.same("cancel(0, 0), a row of one", desk.cancel(0, 0), false);
        Check.lease("as it was", desk, 0, 0, 1, 10);
        Check.row("as it was", desk, 0, 1);
    }

    private static void noneOfAStranger() {
        Check.sentence("false if there is none. (Others wait.)");
        LeaseDesk desk = Check.deskWith(3);
        desk.acquire(0, 0, 10);
        desk.acquire(1, 0, 10);
        Check.same("cancel(2, 0)", desk.cancel(2, 0), false);
        Check.row("as it was", desk, 0, 1);
    }

    private static void noneInAnotherRow() {
        Check.sentence("false if there is none. (It waits for another lock.)");
        LeaseDesk desk = Check.deskWith(2);
        desk.acquire(0, 1, 10);
        desk.acquire(1, 1, 10);
        Check.same("cancel(1, 0)", desk.cancel(1, 0), false);
        Check.same("cancel(1, 2)", desk.cancel(1, 2), false);
        Check.row("as it was", desk, 1, 1);
    }

    private static void noneASecondTime() {
        Check.sentence("false if there is none. (It was cancelled.)");
        LeaseDesk desk = Check.deskWith(3);
        desk.acquire(0, 0, 10);
        desk.acquire(1, 0, 10);
        desk.acquire(2, 0, 10);
        Check.same("cancel(1, 0)", desk.cancel(1, 0), true);
        Check.same("cancel(1, 0) again", desk.cancel(1, 0), false);
        Check.row("as it was", desk, 0, 2);
    }

    private static void noneOnceGranted() {
        Check.sentence("false if there is none. (It was granted.)");
        LeaseDesk desk = Check.deskWith(2);
        desk.acquire(0, 0, 10);
        desk.acquire(1, 0, 10);
        desk.release(0, 0);
        Check.same("cancel(1, 0)", desk.cancel(1, 0), false);
        Check.same("holder(0)", desk.holder(0), 1);
    }

    private static void noneOfASessionThatIsNotOpen() {
        Check.sentence("false if there is none. (The session is not open.)");
        LeaseDesk desk = Check.deskWith(3);
        desk.acquire(0, 0, 100);
        desk.acquire(1, 0, 10);
        desk.acquire(2, 0, 10);
        Check.same("cancel(5, 0), never opened", desk.cancel(5, 0), false);
        desk.close(2);
        Check.same("cancel(2, 0), closed", desk.cancel(2, 0), false);
        desk.tick(40);
        desk.keep(0);
        desk.tick(11);
        Check.same("cancel(1, 0), ended of silence", desk.cancel(1, 0), false);
    }

    private static void noneWithoutASlot() {
        Check.sentence("false if there is none. (No such slot.)");
        LeaseDesk desk = Scenes.full();
        for (int slot : Outside.SLOTS) {
            for (int lock = 0; lock < 4; lock++) {
                Check.same("cancel(" + slot + ", " + lock + ")", desk.cancel(slot, lock), false);
            }
        }
        for (int lock = 0; lock < 4; lock++) {
            Check.row("as it was", desk, lock, 1, 2, 3, 4, 5);
        }
    }

    private static void noneWithoutALock() {
        Check.sentence("false if there is none. (No such lock.)");
        LeaseDesk desk = Scenes.full();
        for (int lock : Outside.LOCKS) {
            Check.same("cancel(1, " + lock + ")", desk.cancel(1, lock), false);
            Check.same("cancel(5, " + lock + ")", desk.cancel(5, lock), false);
            Check.same("cancel(" + lock + ", " + lock + ")", desk.cancel(lock, lock), false);
        }
        for (int lock = 0; lock < 4; lock++) {
            Check.row("as it was", desk, lock, 1, 2, 3, 4, 5);
        }
    }
}

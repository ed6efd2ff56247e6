/** Promise 7: acquire. */
public final class AcquireTest {
    public static void main(String[] args) {
        renewedToALaterEnd();
        renewedToTheSameEnd();
        renewedToAnEarlierEnd();
        renewedByOneMoreOrLess();
        renewedAtTheSameTime();
        renewedBelievesFromTheRenewal();
        renewedHasTheSameToken();
        renewedLeavesTheRow();
        freeIsGranted();
        freeIsGrantedAfterALease();
        lentIsPutBehindTheRow();
        lentFillsTheRow();
        waitsAlreadyAndKeepsItsPlace();
        waitsAlreadyInAFullRow();
        waitsAlreadyAndHasTheNewTerm();
        waitsForOthersToo();
        isASignWhenGranted();
        isASignWhenRenewed();
        isASignWhenRenewedInVain();
        isASignWhenPutBehindTheRow();
        isASignWhenItWaitsAlready();
        isNoSignWhenItThrows();
        theTermsAtTheEdges();
        theLocksAtTheEdges();
        notOpenBecauseThereIsNoSlot();
        notOpenBecauseTheSlotIsFree();
        noSuchLock();
        notATerm();
        notATermInEachState();
        theSessionCountsFirst();
        Check.end();
    }

    private static void renewedToALaterEnd() {
        Check.sentence("the lease is renewed, it ends at the greater of when it ends and the time plus the term");
        LeaseDesk desk = Check.deskWith(1);
        desk.acquire(0, 0, 10);
        desk.tick(4);
        Check.same("acquire(0, 0, 50)", desk.acquire(0, 0, 50), 1);
        Check.lease("renewed", desk, 0, 0, 1, 54);
        Check.same("tick(49)", desk.tick(49), 0);
        Check.same("tick(1)", desk.tick(1), 1);
    }

    private static void renewedToTheSameEnd() {
        Check.sentence("is it the latter (greater than when it ends) (equal is not greater)");
        LeaseDesk desk = Check.deskWith(1);
        desk.acquire(0, 0, 20);
        desk.tick(10);
        Check.same("acquire(0, 0, 10)", desk.acquire(0, 0, 10), 1);
        Check.lease("renewed in vain", desk, 0, 0, 1, 20);
        desk.tick(7);
        Check.same("believes(0, 0): 170 of 180 since the grant", desk.believes(0, 0), true);
        desk.tick(1);
        Check.same("believes(0, 0): 180 of 180 since the grant, not 80 of 90", desk.believes(0, 0), false);
    }

    private static void renewedToAnEarlierEnd() {
        Check.sentence("it ends at the greater of when it ends and the time plus the term (when it ends is greater)");
        LeaseDesk desk = Check.deskWith(1);
        desk.acquire(0, 0, 20);
        desk.tick(10);
        Check.same("acquire(0, 0, 1)", desk.acquire(0, 0, 1), 1);
        Check.lease("renewed in vain", desk, 0, 0, 1, 20);
        desk.tick(7);
        Check.same("believes(0, 0): 170 of 180 since the grant", desk.believes(0, 0), true);
        desk.tick(1);
        Check.same("believes(0, 0): 180 of 180 since the grant", desk.believes(0, 0), false);
        Check.same("tick(1)", desk.tick(1), 0);
        Check.same("tick(1)", desk.tick(1), 1);
    }

    private static void renewedByOneMoreOrLess() {
        Check.sentence("is it the latter (greater than when it ends), the term becomes this one and the start the"
            + " session's clock (one less, equal, one more)");
        int[] terms = {9, 10, 11};
        int[] ends = {20, 20, 21};
        boolean[] believes = {false, false, true};
        for (int i = 0; i < 3; i++) {
            LeaseDesk desk = Check.deskWith(1);
            desk.acquire(0, 3, 20);
            desk.tick(10);
            desk.acquire(0, 3, terms[i]);
            Check.same("until(3) with term " + terms[i], desk.until(3), ends[i]);
            desk.tick(8);
            Check.same("believes(0, 3) with term " + terms[i], desk.believes(0, 3), believes[i]);
        }
    }

    private static void renewedAtTheSameTime() {
        Check.sentence("the term becomes this one and the start the session's clock (at the time of the grant)");
        LeaseDesk desk = Check.deskWith(1);
        desk.acquire(0, 0, 10);
        Check.same("acquire(0, 0, 12)", desk.acquire(0, 0, 12), 1);
        Check.same("acquire(0, 0, 11)", desk.acquire(0, 0, 11), 1);
        Check.lease("renewed", desk, 0, 0, 1, 12);
        desk.tick(10);
        Check.same("believes(0, 0), 100 of 108", desk.believes(0, 0), true);
        desk.tick(1);
        Check.same("believes(0, 0), 110 of 108", desk.believes(0, 0), false);
    }

    private static void renewedBelievesFromTheRenewal() {
        Check.sentence("the term becomes this one and the start the session's clock");
        LeaseDesk desk = Check.deskWith(1);
        desk.acquire(0, 0, 100);
        desk.tick(40);
        desk.acquire(0, 0, 61);
        Check.same("until(0)", desk.until(0), 101);
        desk.tick(50);
        desk.keep(0);
        desk.tick(4);
        Check.same("believes(0, 0): 540 of 549 since the renewal", desk.believes(0, 0), true);
        desk.tick(1);
        Check.same("believes(0, 0): 550 of 549 since the renewal", desk.believes(0, 0), false);
    }

    private static void renewedHasTheSameToken() {
        Check.sentence("Has the session it already: [..]; the token.");
        LeaseDesk desk = Check.deskWith(2);
        desk.acquire(0, 1, 10);
        desk.acquire(1, 1, 10);
        desk.release(0, 1);
        for (int i = 0; i < 10; i++) {
            Check.same("acquire(1, 1, 5) by the holder", desk.acquire(1, 1, 5), 2);
            desk.tick(1);
        }
        Check.same("token(1)", desk.token(1), 2);
    }

    private static void renewedLeavesTheRow() {
        Check.sentence("Has the session it already: the lease is renewed (the holder is not put into the row)");
        LeaseDesk desk = Check.deskWith(3);
        desk.acquire(0, 0, 10);
        Check.same("acquire(0, 0, 20), an empty row", desk.acquire(0, 0, 20), 1);
        Check.row("renewed", desk, 0);
        desk.acquire(1, 0, 10);
        desk.acquire(2, 0, 10);
        Check.same("acquire(0, 0, 30), a row of two", desk.acquire(0, 0, 30), 1);
        Check.same("acquire(0, 0, 3), in vain", desk.acquire(0, 0, 3), 1);
        Check.row("renewed", desk, 0, 1, 2);
    }

    private static void freeIsGranted() {
        Check.sentence("Is the lock free: the request is granted; the token.");
        LeaseDesk desk = Check.deskWith(6);
        desk.tick(5);
        Check.same("acquire(5, 3, 7)", desk.acquire(5, 3, 7), 1);
        Check.lease("granted", desk, 3, 5, 1, 12);
        Check.row("granted", desk, 3);
        Check.same("believes(5, 3)", desk.believes(5, 3), true);
        for (int lock = 0; lock < 3; lock++) {
            Check.free("not asked for", desk, lock, 0);
        }
    }

    private static void freeIsGrantedAfterALease() {
        Check.sentence("Is the lock free: the request is granted; the token. (The next one.)");
        LeaseDesk desk = Check.deskWith(2);
        Check.same("acquire(0, 0, 10)", desk.acquire(0, 0, 10), 1);
        desk.release(0, 0);
        Check.same("acquire(0, 0, 5) after a release", desk.acquire(0, 0, 5), 2);
        Check.lease("granted", desk, 0, 0, 2, 5);
        desk.tick(5);
        Check.same("acquire(1, 0, 6) after its time", desk.acquire(1, 0, 6), 3);
        Check.lease("granted", desk, 0, 1, 3, 11);
        desk.close(1);
        Check.same("acquire(0, 0, 100) after a close", desk.acquire(0, 0, 100), 4);
        Check.lease("granted", desk, 0, 0, 4, 105);
    }

    private static void lentIsPutBehindTheRow() {
        Check.sentence("else it is put behind the row; 0.");
        LeaseDesk desk = Check.deskWith(3);
        desk.acquire(1, 2, 10);
        Check.same("acquire(2, 2, 20), an empty row", desk.acquire(2, 2, 20), 0);
        Check.row("behind none", desk, 2, 2);
        Check.same("acquire(0, 2, 20), a row of one", desk.acquire(0, 2, 20), 0);
        Check.row("behind one", desk, 2, 2, 0);
        Check.lease("as it was", desk, 2, 1, 1, 10);
        Check.same("believes(2, 2)", desk.believes(2, 2), false);
    }

    private static void lentFillsTheRow() {
        Check.sentence("else it is put behind the row; 0. (Until all others wait.)");
        LeaseDesk desk = Check.deskWith(6);
        desk.acquire(3, 2, 10);
        int[] order = {5, 0, 4, 1, 2};
        for (int slot : order) {
            Check.same("acquire(" + slot + ", 2, 10)", desk.acquire(slot, 2, 10), 0);
        }
        Check.row("full", desk, 2, order);
        for (int k = 0; k < order.length; k++) {
            desk.release(desk.holder(2), 2);
            Check.lease("in the row's order", desk, 2, order[k], k + 2, 10);
        }
        Check.row("empty", desk, 2);
    }

    private static void waitsAlreadyAndKeepsItsPlace() {
        Check.sentence("does the session wait in its row, the request there has this term from now on, at its place");
        LeaseDesk desk = Check.deskWith(4);
        for (int slot = 0; slot < 4; slot++) {
            desk.acquire(slot, 0, 10);
        }
        for (int slot = 1; slot < 4; slot++) {
            Check.same("acquire(" + slot + ", 0, 20) again", desk.acquire(slot, 0, 20), 0);
            Check.row("after " + slot + " asked again", desk, 0, 1, 2, 3);
        }
        Check.lease("as it was", desk, 0, 0, 1, 10);
    }

    private static void waitsAlreadyInAFullRow() {
        Check.sentence("does the session wait in its row, [..] at its place (of a full row)");
        LeaseDesk desk = Scenes.full();
        for (int slot = 5; slot > 0; slot--) {
            Check.same("acquire(" + slot + ", 3, 40) again", desk.acquire(slot, 3, 40 + slot), 0);
            Check.row("after " + slot + " asked again", desk, 3, 1, 2, 3, 4, 5);
        }
        for (int slot = 1; slot < 6; slot++) {
            desk.release(slot - 1, 3);
            Check.lease("in the row's order", desk, 3, slot, slot + 1, 41 + slot);
        }
    }

    private static void waitsAlreadyAndHasTheNewTerm() {
        Check.sentence("the request there has this term from now on");
        LeaseDesk desk = Check.deskWith(4);
        desk.acquire(0, 0, 10);
        desk.acquire(1, 0, 20);
        desk.acquire(2, 0, 30);
        desk.acquire(3, 0, 40);
        desk.acquire(2, 0, 3);
        desk.acquire(1, 0, 99);
        desk.acquire(1, 0, 50);
        desk.release(0, 0);
        Check.same("until(0) by a later, longer term", desk.until(0), 50);
        desk.release(1, 0);
        Check.same("until(0) by a later, shorter term", desk.until(0), 3);
        desk.release(2, 0);
        Check.same("until(0) by the term of one that asked once", desk.until(0), 40);
    }

    private static void waitsForOthersToo() {
        Check.sentence("Each lock has a ROW of requests that wait (a session may wait in several and hold others)");
        LeaseDesk desk = Check.deskWith(2);
        Check.same("acquire(0, 0, 10)", desk.acquire(0, 0, 10), 1);
        Check.same("acquire(0, 1, 10)", desk.acquire(0, 1, 10), 1);
        Check.same("acquire(1, 2, 10)", desk.acquire(1, 2, 10), 1);
        Check.same("acquire(1, 0, 10)", desk.acquire(1, 0, 10), 0);
        Check.same("acquire(1, 1, 10)", desk.acquire(1, 1, 10), 0);
        Check.same("acquire(0, 2, 10)", desk.acquire(0, 2, 10), 0);
        Check.row("of the first", desk, 0, 1);
        Check.row("of the second", desk, 1, 1);
        Check.row("of the third", desk, 2, 0);
    }

    /** Session 0's sign is 40 old when it asks; 50 later it is open by that sign, and 1 later it is not. */
    private static void isASign(LeaseDesk desk, int lock, int term, int due) {
        String call = "acquire(0, " + lock + ", " + term + ")";
        Check.same(call, desk.acquire(0, lock, term), due);
        desk.tick(50);
        Check.same("clock(0), 50 after " + call, desk.clock(0), 900);
        desk.tick(1);
        Check.same("clock(0), 51 after " + call, desk.clock(0), -1);
    }

    private static void isASignWhenGranted() {
        Check.sentence("The session's sign is at this time then. (Granted.)");
        LeaseDesk desk = Check.deskWith(1);
        desk.tick(40);
        isASign(desk, 0, 100, 1);
    }

    private static void isASignWhenRenewed() {
        Check.sentence("The session's sign is at this time then. (Renewed.)");
        LeaseDesk desk = Check.deskWith(1);
        desk.acquire(0, 0, 60);
        desk.tick(40);
        isASign(desk, 0, 100, 1);
    }

    private static void isASignWhenRenewedInVain() {
        Check.sentence("The session's sign is at this time then. (Renewed, but the end stays.)");
        LeaseDesk desk = Check.deskWith(1);
        desk.acquire(0, 0, 100);
        desk.tick(40);
        isASign(desk, 0, 1, 1);
    }

    private static void isASignWhenPutBehindTheRow() {
        Check.sentence("The session's sign is at this time then. (Put behind the row.)");
        LeaseDesk desk = Check.deskWith(2);
        desk.acquire(1, 0, 100);
        desk.tick(40);
        isASign(desk, 0, 1, 0);
    }

    private static void isASignWhenItWaitsAlready() {
        Check.sentence("The session's sign is at this time then. (It waits already.)");
        LeaseDesk desk = Check.deskWith(2);
        desk.acquire(1, 0, 100);
        desk.acquire(0, 0, 1);
        desk.tick(40);
        isASign(desk, 0, 1, 0);
    }

    private static void isNoSignWhenItThrows() {
        Check.sentence("The session's sign is at this time then. (Not if the call throws, nor as a row moves on.)");
        LeaseDesk desk = Check.deskWith(5);
        desk.acquire(0, 0, 40);
        desk.acquire(1, 0, 100);
        desk.tick(40);
        Check.same("holder(0)", desk.holder(0), 1);
        Check.badArgument("acquire(2, 4, 1)", () -> desk.acquire(2, 4, 1));
        Check.badArgument("acquire(3, 0, 0)", () -> desk.acquire(3, 0, 0));
        Check.badArgument("acquire(4, 1, 101)", () -> desk.acquire(4, 1, 101));
        Check.same("tick(11)", desk.tick(11), 1);
        for (int slot = 0; slot < 5; slot++) {
            Check.same("clock(" + slot + "), 51 after its latest sign", desk.clock(slot), -1);
        }
    }

    private static void theTermsAtTheEdges() {
        Check.sentence("term is not 1 .. 100 (1 and 100 are)");
        LeaseDesk desk = Check.deskWith(2);
        Check.same("acquire(0, 0, 1)", desk.acquire(0, 0, 1), 1);
        Check.same("until(0)", desk.until(0), 1);
        Check.same("acquire(0, 0, 100), a renewal", desk.acquire(0, 0, 100), 1);
        Check.same("until(0)", desk.until(0), 100);
        Check.same("acquire(1, 0, 100), a request", desk.acquire(1, 0, 100), 0);
        Check.same("acquire(1, 0, 1), a request", desk.acquire(1, 0, 1), 0);
        desk.release(0, 0);
        Check.same("until(0)", desk.until(0), 1);
        Check.same("acquire(1, 3, 100)", desk.acquire(1, 3, 100), 1);
        Check.same("until(3)", desk.until(3), 100);
    }

    private static void theLocksAtTheEdges() {
        Check.sentence("if there is no such lock (0 .. 3 are)");
        LeaseDesk desk = Check.deskWith(6);
        for (int lock = 0; lock < 4; lock++) {
            Check.same("acquire(0, " + lock + ", 9)", desk.acquire(0, lock, 9), 1);
            Check.same("acquire(5, " + lock + ", 9)", desk.acquire(5, lock, 9), 0);
        }
    }

    private static void notOpenBecauseThereIsNoSlot() {
        Check.sentence("NoSuchElementException if the session is not open (no such slot)");
        LeaseDesk desk = Check.deskWith(6);
        for (int slot : Outside.SLOTS) {
            Check.noElement("acquire(" + slot + ", 0, 1)", () -> desk.acquire(slot, 0, 1));
        }
        Check.free("after that", desk, 0, 0);
    }

    private static void notOpenBecauseTheSlotIsFree() {
        Check.sentence("NoSuchElementException if the session is not open (a free slot)");
        LeaseDesk desk = Check.deskWith(3);
        desk.acquire(1, 1, 10);
        desk.close(1);
        Check.noElement("acquire(1, 1, 1), closed", () -> desk.acquire(1, 1, 1));
        Check.noElement("acquire(3, 1, 1), never opened", () -> desk.acquire(3, 1, 1));
        Check.noElement("acquire(5, 1, 1), never opened", () -> desk.acquire(5, 1, 1));
        desk.tick(51);
        Check.noElement("acquire(0, 1, 1), ended of silence", () -> desk.acquire(0, 1, 1));
        Check.free("after that", desk, 1, 1);
    }

    private static void noSuchLock() {
        Check.sentence("else IllegalArgumentException if there is no such lock");
        LeaseDesk desk = Check.deskWith(1);
        for (int lock : Outside.LOCKS) {
            Check.badArgument("acquire(0, " + lock + ", 1)", () -> desk.acquire(0, lock, 1));
        }
        for (int lock = 0; lock < 4; lock++) {
            Check.free("after that", desk, lock, 0);
        }
    }

    private static void notATerm() {
        Check.sentence("or term is not 1 .. 100.");
        LeaseDesk desk = Check.deskWith(1);
        for (int term : Outside.TERMS) {
            Check.badArgument("acquire(0, 0, " + term + ")", () -> desk.acquire(0, 0, term));
            Check.badArgument("acquire(0, 4, " + term + ")", () -> desk.acquire(0, 4, term));
        }
        Check.free("after that", desk, 0, 0);
    }

    private static void notATermInEachState() {
        Check.sentence("or term is not 1 .. 100. (By the holder, one that waits, and a stranger.)");
        LeaseDesk desk = Check.deskWith(3);
        desk.acquire(0, 0, 10);
        desk.acquire(1, 0, 20);
        for (int slot = 0; slot < 3; slot++) {
            for (int term : Outside.TERMS) {
                int asking = slot;
                Check.badArgument("acquire(" + slot + ", 0, " + term + ")", () -> desk.acquire(asking, 0, term));
            }
        }
        Check.lease("after that", desk, 0, 0, 1, 10);
        Check.row("after that", desk, 0, 1);
        desk.release(0, 0);
        Check.same("until(0)", desk.until(0), 20);
    }

    private static void theSessionCountsFirst() {
        Check.sentence("NoSuchElementException if the session is not open; else IllegalArgumentException");
        LeaseDesk desk = Check.deskWith(5);
        int[] notOpen = {5, 6, -1, Integer.MIN_VALUE, Integer.MAX_VALUE};
        for (int slot : notOpen) {
            Check.noElement("acquire(" + slot + ", 4, 1)", () -> desk.acquire(slot, 4, 1));
            Check.noElement("acquire(" + slot + ", -1, 1)", () -> desk.acquire(slot, -1, 1));
            Check.noElement("acquire(" + slot + ", 0, 0)", () -> desk.acquire(slot, 0, 0));
            Check.noElement("acquire(" + slot + ", 0, 101)", () -> desk.acquire(slot, 0, 101));
            Check.noElement("acquire(" + slot + ", 4, 0)", () -> desk.acquire(slot, 4, 0));
            Check.noElement("acquire(" + slot + ", -1, 101)", () -> desk.acquire(slot, -1, 101));
        }
    }
}

/** The limits and words of "Terms" that no one promise has to itself. */
public final class TermsTest {
    /** The ways in which a lock that session 0 holds is passed on, or would be if one waited. */
    private enum Way {
        RELEASE, CLOSE, END_OF_THE_LEASE, SILENCE
    }

    private static final int MOMENT = 51;

    public static void main(String[] args) {
        slotsInside();
        slotsOutside();
        openOrFree();
        rates();
        locksInside();
        locksOutside();
        lentToAnOpenSession();
        grantedWithTheNextToken();
        grantedToEndAtTheTimePlusTheTerm();
        grantedWithTheSessionsClockAsStart();
        grantedAndInTheRowNoMore();
        passedOnWithAnEmptyRow();
        passedOnWithARowOfOne();
        passedOnWithAFullRow();
        greaterThanAllBefore();
        thenItsSlotIsFree();
        theLastOf512Calls();
        Check.end();
    }

    /**
     * At the time 51, after session 0's lease of lock 2 (token 1) was ended in this way; before that the others in
     * waiting asked for the lock, each for a term of 10 more than its slot, and all but 0 gave signs.
     */
    private static LeaseDesk ended(Way way, int... waiting) {
        LeaseDesk desk = Check.deskWith(6);
        desk.acquire(0, 2, way == Way.END_OF_THE_LEASE ? MOMENT : 100);
        for (int slot : waiting) {
            desk.acquire(slot, 2, 10 + slot);
        }
        desk.tick(MOMENT - 1);
        for (int slot = way == Way.SILENCE ? 1 : 0; slot < 6; slot++) {
            desk.keep(slot);
        }
        Check.same("holder(2) before the " + way, desk.holder(2), 0);
        Check.same("tick(1)", desk.tick(1), way == Way.SILENCE || way == Way.END_OF_THE_LEASE ? 1 : 0);
        if (way == Way.RELEASE) {
            desk.release(0, 2);
        } else if (way == Way.CLOSE) {
            Check.same("close(0)", desk.close(0), 1);
        }
        return desk;
    }

    private static void slotsInside() {
        Check.sentence("SESSIONS sit in slots 0 .. 5 (each call takes each of them)");
        for (int slot = 0; slot < 6; slot++) {
            LeaseDesk desk = Check.deskWith(6);
            desk.keep(slot);
            Check.same("clock(" + slot + ")", desk.clock(slot), 0);
            Check.same("rate(" + slot + ", 9)", desk.rate(slot, 9), true);
            Check.same("acquire(" + slot + ", 0, 5)", desk.acquire(slot, 0, 5), 1);
            Check.same("believes(" + slot + ", 0)", desk.believes(slot, 0), true);
            desk.release(slot, 0);
            desk.acquire((slot + 1) % 6, 0, 5);
            Check.same("acquire(" + slot + ", 0, 5)", desk.acquire(slot, 0, 5), 0);
            Check.same("cancel(" + slot + ", 0)", desk.cancel(slot, 0), true);
            Check.same("close(" + slot + ")", desk.close(slot), 0);
        }
    }

    private static void slotsOutside() {
        Check.sentence("SESSIONS sit in slots 0 .. 5 (no call takes another)");
        LeaseDesk desk = Check.deskWith(6);
        for (int slot : Outside.SLOTS) {
            Check.noElement("close(" + slot + ")", () -> desk.close(slot));
            Check.noElement("keep(" + slot + ")", () -> desk.keep(slot));
            Check.same("rate(" + slot + ", 10)", desk.rate(slot, 10), false);
            Check.noElement("acquire(" + slot + ", 0, 1)", () -> desk.acquire(slot, 0, 1));
            Check.noElement("release(" + slot + ", 0)", () -> desk.release(slot, 0));
            Check.same("cancel(" + slot + ", 0)", desk.cancel(slot, 0), false);
            Check.same("clock(" + slot + ")", desk.clock(slot), -1);
            Check.same("believes(" + slot + ", 0)", desk.believes(slot, 0), false);
        }
    }

    private static void openOrFree() {
        Check.sentence("one is OPEN or the slot is free");
        LeaseDesk desk = Check.deskWith(6);
        for (int slot = 0; slot < 6; slot++) {
            int freed = slot;
            desk.close(slot);
            Check.same("clock(" + slot + "), free", desk.clock(slot), -1);
            Check.noElement("keep(" + slot + "), free", () -> desk.keep(freed));
            Check.same("open()", desk.open(), slot);
            Check.same("clock(" + slot + "), open", desk.clock(slot), 0);
            desk.keep(slot);
        }
    }

    private static void rates() {
        Check.sentence("a RATE 9, 10 or 11");
        LeaseDesk desk = Check.deskWith(1);
        for (int r = -20; r <= 40; r++) {
            Check.same("rate(0, " + r + ")", desk.rate(0, r), r == 9 || r == 10 || r == 11);
        }
    }

    private static void locksInside() {
        Check.sentence("LOCKS are 0 .. 3. (Each call takes each of them.)");
        for (int lock = 0; lock < 4; lock++) {
            LeaseDesk desk = Check.deskWith(2);
            Check.same("acquire(0, " + lock + ", 5)", desk.acquire(0, lock, 5), 1);
            Check.lease("granted", desk, lock, 0, 1, 5);
            Check.same("believes(0, " + lock + ")", desk.believes(0, lock), true);
            Check.same("acquire(1, " + lock + ", 5)", desk.acquire(1, lock, 5), 0);
            Check.same("waiter(" + lock + ", 0)", desk.waiter(lock, 0), 1);
            Check.same("cancel(1, " + lock + ")", desk.cancel(1, lock), true);
            desk.release(0, lock);
            Check.free("released", desk, lock, 1);
            Check.same("write(" + lock + ", 1, 6)", desk.write(lock, 1, 6), true);
            Check.same("stored(" + lock + ")", desk.stored(lock), 6);
            Check.same("seen(" + lock + ")", desk.seen(lock), 1);
        }
    }

    private static void locksOutside() {
        Check.sentence("LOCKS are 0 .. 3. (No call takes another.)");
        LeaseDesk desk = Check.deskWith(6);
        for (int lock : Outside.LOCKS) {
            Check.badArgument("acquire(0, " + lock + ", 1)", () -> desk.acquire(0, lock, 1));
            Check.badArgument("release(0, " + lock + ")", () -> desk.release(0, lock));
            Check.same("cancel(0, " + lock + ")", desk.cancel(0, lock), false);
            Check.lease("of none", desk, lock, -1, -1, -1);
            Check.row("of none", desk, lock);
            Check.same("believes(0, " + lock + ")", desk.believes(0, lock), false);
            Check.same("write(" + lock + ", 1, 1)", desk.write(lock, 1, 1), false);
            Check.same("stored(" + lock + ")", desk.stored(lock), 0);
            Check.same("seen(" + lock + ")", desk.seen(lock), -1);
        }
    }

    private static void lentToAnOpenSession() {
        Check.sentence("A lock is FREE, or LENT to an open session");
        for (Way way : Way.values()) {
            LeaseDesk desk = ended(way, 5);
            int holder = desk.holder(2);
            Check.same("holder(2) after the " + way, holder, 5);
            Check.same("clock(5) after the " + way, desk.clock(holder), 510);
            desk.close(5);
            Check.free("with no session left that wants it, after the " + way, desk, 2, 2);
        }
    }

    private static void grantedWithTheNextToken() {
        Check.sentence("To GRANT a request: the lock is lent to its session with the next token");
        Check.same("acquire(0, 2, 9), the first", Check.deskWith(1).acquire(0, 2, 9), 1);
        for (Way way : Way.values()) {
            LeaseDesk waited = ended(way, 4);
            Check.same("token(2) after the " + way, waited.token(2), 2);
            Check.same("acquire(4, 2, 1) by the holder, after the " + way, waited.acquire(4, 2, 1), 2);
            LeaseDesk free = ended(way);
            Check.same("acquire(1, 2, 1) of a lock free after the " + way, free.acquire(1, 2, 1), 2);
        }
    }

    private static void grantedToEndAtTheTimePlusTheTerm() {
        Check.sentence("it ends at the time plus the term");
        for (Way way : Way.values()) {
            Check.same("until(2) after the " + way, ended(way, 3).until(2), MOMENT + 13);
            LeaseDesk free = ended(way);
            free.acquire(1, 2, 100);
            Check.same("until(2) of a lock free after the " + way, free.until(2), MOMENT + 100);
        }
    }

    private static void grantedWithTheSessionsClockAsStart() {
        Check.sentence("the start is the session's clock");
        for (Way way : Way.values()) {
            LeaseDesk desk = ended(way, 5);
            Check.same("believes(5, 2), 0 of 135, after the " + way, desk.believes(5, 2), true);
            desk.tick(13);
            Check.same("believes(5, 2), 130 of 135, after the " + way, desk.believes(5, 2), true);
            desk.tick(1);
            Check.same("believes(5, 2), 140 of 135, after the " + way, desk.believes(5, 2), false);
            Check.same("holder(2)", desk.holder(2), 5);
        }
    }

    private static void grantedAndInTheRowNoMore() {
        Check.sentence("the request is in the row no more");
        for (Way way : Way.values()) {
            LeaseDesk desk = ended(way, 1, 2);
            Check.row("after the " + way, desk, 2, 2);
            Check.same("cancel(1, 2) after the " + way, desk.cancel(1, 2), false);
        }
    }

    private static void passedOnWithAnEmptyRow() {
        Check.sentence("To PASS ON a lock: it is free then");
        for (Way way : Way.values()) {
            LeaseDesk desk = ended(way);
            Check.free("after the " + way, desk, 2, 1);
            Check.row("after the " + way, desk, 2);
        }
    }

    private static void passedOnWithARowOfOne() {
        Check.sentence("and is its row not empty, the first request of it is granted. (The only one.)");
        for (Way way : Way.values()) {
            LeaseDesk desk = ended(way, 5);
            Check.lease("after the " + way, desk, 2, 5, 2, MOMENT + 15);
            Check.row("after the " + way, desk, 2);
        }
    }

    private static void passedOnWithAFullRow() {
        Check.sentence("and is its row not empty, the first request of it is granted. (Of a full row.)");
        for (Way way : Way.values()) {
            LeaseDesk desk = ended(way, 3, 5, 1, 2, 4);
            Check.lease("after the " + way, desk, 2, 3, 2, MOMENT + 13);
            Check.row("after the " + way, desk, 2, 5, 1, 2, 4);
        }
    }

    private static void greaterThanAllBefore() {
        Check.sentence("each lease has a token that is greater than all before it");
        LeaseDesk desk = Check.deskWith(6);
        int latest = 0;
        for (int i = 0; i < 60; i++) {
            desk.acquire(i % 6, 1, 1 + i % 5);
            desk.acquire((i + 1) % 6, 1, 1);
            int holder = desk.holder(1);
            if (holder != -1 && i % 3 == 0) {
                int token = desk.acquire(holder, 1, 1);
                Check.same("a token that is greater", token > latest, true);
                latest = token;
                desk.release(holder, 1);
            }
            Check.tickKeeping(desk, 1, i % 6);
        }
    }

    private static void thenItsSlotIsFree() {
        Check.sentence("then its slot is free");
        for (Way way : Way.values()) {
            boolean isEnded = way == Way.CLOSE || way == Way.SILENCE;
            LeaseDesk desk = ended(way, 1);
            Check.same("clock(0) after the " + way, desk.clock(0), isEnded ? -1 : 510);
            Check.same("open() after the " + way, new Call(Kind.OPEN).on(desk), isEnded ? "0" : Check.BAD_STATE);
        }
    }

    private static void theLastOf512Calls() {
        Check.sentence("An object is used for at most 512 calls after it has been made");
        LeaseDesk desk = Check.deskWith(6);
        for (int i = 0; i < 100; i++) {
            desk.keep(0);
            desk.acquire(0, 0, 100);
            desk.acquire(1, 0, 100);
            desk.rate(0, 9 + i % 3);
            desk.tick(1);
        }
        Check.same("waiter(0, 0), the 507th call", desk.waiter(0, 0), 1);
        Check.same("until(0), the 508th call", desk.until(0), 199);
        Check.same("clock(1), the 509th call", desk.clock(1), 1000);
        Check.same("clock(2), the 510th call", desk.clock(2), -1);
        Check.same("open(), the 511th call", desk.open(), 2);
        Check.badArgument("acquire(2, 4, 1), the 512th call", () -> desk.acquire(2, 4, 1));
    }
}

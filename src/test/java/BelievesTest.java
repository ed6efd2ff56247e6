/** Promise 16: believes. */
public final class BelievesTest {
    private static final int TERM = 100;

    public static void main(String[] args) {
        atEachRate();
        atOnce();
        oneLessThanNineTimesTheTerm();
        nineTimesTheTerm();
        oneMoreThanNineTimesTheTerm();
        theShortestTerm();
        theLongestTerm();
        beyondTheStart();
        beyondTheStartOfAGrantFromTheRow();
        theTermAskedForLast();
        neverInALeaseThatHasEnded();
        notOneThatWaits();
        notAStranger();
        notOfAFreeLock();
        notAfterTheLease();
        notOpen();
        noSuchSlot();
        noSuchLock();
        Check.end();
    }

    /** A desk whose session 0 has lock 0, and since then went on by these many steps at each of its rates. */
    private static LeaseDesk clockBeyondTheStart(int term, int nines, int tens, int elevens) {
        LeaseDesk desk = Check.deskWith(1);
        desk.acquire(0, 0, term);
        int[] steps = {nines, tens, elevens};
        for (int i = 0; i < 3; i++) {
            desk.rate(0, 9 + i);
            Check.tickKeeping(desk, steps[i], 0);
        }
        Check.same("holder(0)", desk.holder(0), 0);
        return desk;
    }

    private static void atEachRate() {
        Check.sentence("its clock is less than 9 times the term beyond the start (at each rate)");
        int[] lastTrue = {99, 89, 81};
        for (int r = 9; r <= 11; r++) {
            LeaseDesk desk = Check.deskWith(1);
            desk.rate(0, r);
            desk.acquire(0, 0, TERM);
            for (int time = 1; time <= TERM; time++) {
                Check.tickKeeping(desk, 1, 0);
                boolean due = time <= lastTrue[r - 9];
                Check.same("believes(0, 0) at rate " + r + ", time " + time, desk.believes(0, 0), due);
            }
        }
    }

    private static void atOnce() {
        Check.sentence("its clock is less than 9 times the term beyond the start (by all of it)");
        LeaseDesk desk = Check.deskWith(6);
        desk.tick(30);
        for (int lock = 0; lock < 4; lock++) {
            desk.acquire(5 - lock, lock, 1);
            Check.same("believes(" + (5 - lock) + ", " + lock + ")", desk.believes(5 - lock, lock), true);
        }
    }

    private static void oneLessThanNineTimesTheTerm() {
        Check.sentence("its clock is less than 9 times the term beyond the start (by one)");
        LeaseDesk desk = clockBeyondTheStart(10, 5, 0, 4);
        Check.same("clock(0)", desk.clock(0), 89);
        Check.same("believes(0, 0), 89 of 90", desk.believes(0, 0), true);
    }

    private static void nineTimesTheTerm() {
        Check.sentence("its clock is less than 9 times the term beyond the start (not equal)");
        LeaseDesk desk = clockBeyondTheStart(10, 0, 9, 0);
        Check.same("clock(0)", desk.clock(0), 90);
        Check.same("believes(0, 0), 90 of 90", desk.believes(0, 0), false);
    }

    private static void oneMoreThanNineTimesTheTerm() {
        Check.sentence("its clock is less than 9 times the term beyond the start (not one more)");
        LeaseDesk desk = clockBeyondTheStart(10, 0, 8, 1);
        Check.same("clock(0)", desk.clock(0), 91);
        Check.same("believes(0, 0), 91 of 90", desk.believes(0, 0), false);
    }

    private static void theShortestTerm() {
        Check.sentence("less than 9 times the term beyond the start (the term 1)");
        LeaseDesk desk = Check.deskWith(1);
        desk.rate(0, 9);
        desk.acquire(0, 0, 1);
        desk.tick(0);
        Check.same("believes(0, 0), 0 of 9", desk.believes(0, 0), true);
        desk.tick(1);
        Check.same("believes(0, 0), 9 of 9", desk.believes(0, 0), false);
        desk.acquire(0, 1, 2);
        desk.tick(1);
        Check.same("believes(0, 1), 9 of 18", desk.believes(0, 1), true);
    }

    private static void theLongestTerm() {
        Check.sentence("less than 9 times the term beyond the start (the term 100)");
        LeaseDesk desk = clockBeyondTheStart(100, 50, 44, 0);
        Check.same("clock(0)", desk.clock(0), 890);
        Check.same("believes(0, 0), 890 of 900", desk.believes(0, 0), true);
        desk.rate(0, 9);
        desk.tick(1);
        Check.same("believes(0, 0), 899 of 900", desk.believes(0, 0), true);
        desk.tick(1);
        Check.same("believes(0, 0), 908 of 900", desk.believes(0, 0), false);
        Check.same("holder(0), which has it still", desk.holder(0), 0);
    }

    private static void beyondTheStart() {
        Check.sentence("beyond the start (what the clock showed at the grant or the latest renewal)");
        LeaseDesk desk = Check.deskWith(1);
        desk.tick(30);
        desk.acquire(0, 0, 10);
        desk.tick(8);
        Check.same("believes(0, 0), 80 of 90", desk.believes(0, 0), true);
        desk.acquire(0, 0, 5);
        desk.tick(4);
        Check.same("believes(0, 0), 40 of 45 since the renewal", desk.believes(0, 0), true);
        desk.acquire(0, 0, 1);
        desk.rate(0, 9);
        Check.same("believes(0, 0), 40 of 45: the last gained no time", desk.believes(0, 0), true);
        desk.acquire(0, 0, 2);
        desk.tick(1);
        Check.same("believes(0, 0), 9 of 18 since the renewal", desk.believes(0, 0), true);
        Check.same("tick(1)", desk.tick(1), 1);
        Check.same("believes(0, 0), its end", desk.believes(0, 0), false);
    }

    private static void beyondTheStartOfAGrantFromTheRow() {
        Check.sentence("the start is the session's clock (as it is granted, not as it asked)");
        LeaseDesk desk = Check.deskWith(2);
        desk.acquire(0, 0, 30);
        desk.acquire(1, 0, 20);
        desk.tick(30);
        Check.same("believes(1, 0), 0 of 180", desk.believes(1, 0), true);
        Check.tickKeeping(desk, 17, 1);
        Check.same("believes(1, 0), 170 of 180", desk.believes(1, 0), true);
        desk.tick(1);
        Check.same("believes(1, 0), 180 of 180", desk.believes(1, 0), false);
    }

    private static void theTermAskedForLast() {
        Check.sentence("the TERM for which it was asked (by a request that was given another term as it waited)");
        int[] terms = {5, 40};
        for (int term : terms) {
            LeaseDesk desk = Check.deskWith(2);
            desk.acquire(0, 0, 10);
            desk.acquire(1, 0, 20);
            desk.acquire(1, 0, term);
            desk.tick(10);
            int lastTrue = (9 * term - 1) / 10;
            desk.tick(lastTrue);
            Check.same("believes(1, 0) at the last moment of term " + term, desk.believes(1, 0), true);
            Check.tickKeeping(desk, 1, 1);
            Check.same("believes(1, 0) after it", desk.believes(1, 0), false);
        }
    }

    private static void neverInALeaseThatHasEnded() {
        Check.sentence("a client that goes by its own clock, with care, never believes in a lease that has ended");
        for (int r = 9; r <= 11; r++) {
            for (int term = 1; term <= 50; term++) {
                LeaseDesk desk = Check.deskWith(1);
                desk.rate(0, r);
                desk.acquire(0, 2, term);
                desk.tick(term - 1);
                Check.same("believes(0, 2) at rate " + r + " just before the end of term " + term,
                    desk.believes(0, 2), r * (term - 1) < 9 * term);
                desk.tick(1);
                Check.same("believes(0, 2) at its end", desk.believes(0, 2), false);
            }
        }
    }

    private static void notOneThatWaits() {
        Check.sentence("Whether the session holds the lock (it waits)");
        LeaseDesk desk = Check.deskWith(2);
        desk.acquire(0, 0, 10);
        desk.acquire(1, 0, 10);
        Check.same("believes(1, 0)", desk.believes(1, 0), false);
        Check.same("believes(0, 0)", desk.believes(0, 0), true);
    }

    private static void notAStranger() {
        Check.sentence("Whether the session holds the lock (another does)");
        LeaseDesk desk = Check.deskWith(6);
        desk.acquire(3, 1, 10);
        for (int slot = 0; slot < 6; slot++) {
            Check.same("believes(" + slot + ", 1)", desk.believes(slot, 1), slot == 3);
        }
    }

    private static void notOfAFreeLock() {
        Check.sentence("Whether the session holds the lock (it is free)");
        LeaseDesk desk = Check.deskWith(6);
        for (int slot = 0; slot < 6; slot++) {
            for (int lock = 0; lock < 4; lock++) {
                Check.same("believes(" + slot + ", " + lock + ")", desk.believes(slot, lock), false);
            }
        }
    }

    private static void notAfterTheLease() {
        Check.sentence("Whether the session holds the lock (it did)");
        LeaseDesk desk = Check.deskWith(2);
        desk.acquire(0, 0, 100);
        desk.acquire(1, 1, 100);
        desk.acquire(1, 0, 100);
        desk.release(0, 0);
        Check.same("believes(0, 0), released", desk.believes(0, 0), false);
        Check.same("believes(1, 0), its next holder", desk.believes(1, 0), true);
        desk.close(1);
        Check.same("believes(1, 0), closed", desk.believes(1, 0), false);
        desk.open();
        Check.same("believes(1, 1), a new session", desk.believes(1, 1), false);
    }

    private static void notOpen() {
        Check.sentence("Whether the session holds the lock (it is not open)");
        LeaseDesk desk = Check.deskWith(1);
        desk.acquire(0, 0, 100);
        for (int slot = 1; slot < 6; slot++) {
            Check.same("believes(" + slot + ", 0), never opened", desk.believes(slot, 0), false);
            Check.same("believes(" + slot + ", 1), a free lock", desk.believes(slot, 1), false);
        }
        desk.tick(51);
        Check.same("believes(0, 0), ended of silence", desk.believes(0, 0), false);
    }

    private static void noSuchSlot() {
        Check.sentence("Whether the session holds the lock (no such slot)");
        LeaseDesk desk = Check.deskWith(6);
        desk.acquire(0, 0, 10);
        desk.acquire(5, 3, 10);
        for (int slot : Outside.SLOTS) {
            for (int lock = 0; lock < 4; lock++) {
                Check.same("believes(" + slot + ", " + lock + ")", desk.believes(slot, lock), false);
            }
        }
    }

    private static void noSuchLock() {
        Check.sentence("Whether the session holds the lock (no such lock)");
        LeaseDesk desk = Check.deskWith(6);
        for (int lock = 0; lock < 4; lock++) {
            desk.acquire(0, lock, 10);
        }
        for (int lock : Outside.LOCKS) {
            Check.same("believes(0, " + lock + ")", desk.believes(0, lock), false);
            Check.same("believes(5, " + lock + ")", desk.believes(5, lock), false);
            Check.same("believes(" + lock + ", " + lock + ")", desk.believes(lock, lock), false);
        }
    }
}

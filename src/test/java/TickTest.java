/** Promise 6: tick. */
public final class TickTest {
    public static void main(String[] args) {
        theTimeGoesOn();
        byNothing();
        byTheMost();
        theClocksOfOpenSessions();
        moreThanFiftyBefore();
        moreThanFiftyBeforeInOneStep();
        eachSignForItself();
        endedFromTheLeastSlot();
        endedFromTheLeastSlotTheOtherWay();
        passedOnPastSilentSessions();
        anEndedSessionWaitsNoMore();
        anEndedSessionsLocksArePassedOn();
        endsAtThisTime();
        endsBeforeIt();
        eachLockForItself();
        passedOnToTheFirstOfTheRow();
        passedOnAfterTheClocksWentOn();
        aLeasePassedOnInATickIsNotDueInIt();
        sessionsEndBeforeLeasesDo();
        noLeaseCameToItsEnd();
        countsThoseOfEndedSessions();
        countsOneGrantedAMomentBefore();
        countsTheMostThatOneTickCanEnd();
        countsThosePassedOnAtTheirTime();
        countsALeaseOnce();
        countsBothKindsTogether();
        notAStep();
        Check.end();
    }

    private static void theTimeGoesOn() {
        Check.sentence("The time goes on by d");
        LeaseDesk desk = new LeaseDesk();
        Check.same("tick(1)", desk.tick(1), 0);
        Check.same("time()", desk.time(), 1);
        Check.same("tick(99)", desk.tick(99), 0);
        Check.same("time()", desk.time(), 100);
    }

    private static void byNothing() {
        Check.sentence("The time goes on by d (0)");
        LeaseDesk desk = Check.deskWith(2);
        desk.acquire(0, 0, 1);
        desk.acquire(1, 0, 1);
        Check.same("tick(0)", desk.tick(0), 0);
        Check.same("time()", desk.time(), 0);
        Check.same("clock(0)", desk.clock(0), 0);
        Check.lease("after tick(0)", desk, 0, 0, 1, 1);
        desk.tick(50);
        Check.same("tick(0), 50 after all signs", desk.tick(0), 0);
        Check.same("clock(0)", desk.clock(0), 500);
    }

    private static void byTheMost() {
        Check.sentence("The time goes on by d (100)");
        LeaseDesk desk = Check.deskWith(1);
        Check.same("acquire(0, 0, 100)", desk.acquire(0, 0, 100), 1);
        Check.same("tick(100)", desk.tick(100), 1);
        Check.same("time()", desk.time(), 100);
        Check.same("tick(100)", desk.tick(100), 0);
        Check.same("time()", desk.time(), 200);
    }

    private static void theClocksOfOpenSessions() {
        Check.sentence("(and the clocks of the open sessions do)");
        LeaseDesk desk = Check.deskWith(3);
        desk.rate(0, 11);
        desk.rate(2, 9);
        desk.close(1);
        desk.tick(20);
        Check.same("clock(0)", desk.clock(0), 220);
        Check.same("clock(1), closed", desk.clock(1), -1);
        Check.same("clock(2)", desk.clock(2), 180);
        desk.open();
        Check.same("clock(1), opened since", desk.clock(1), 0);
        desk.tick(5);
        Check.same("clock(0)", desk.clock(0), 275);
        Check.same("clock(1)", desk.clock(1), 50);
        Check.same("clock(2)", desk.clock(2), 225);
    }

    private static void moreThanFiftyBefore() {
        Check.sentence("then all open sessions whose sign is more than 50 before the time are ended");
        LeaseDesk desk = Check.deskWith(6);
        desk.tick(50);
        for (int slot = 0; slot < 6; slot++) {
            Check.same("clock(" + slot + "), 50 after its sign", desk.clock(slot), 500);
        }
        desk.tick(1);
        for (int slot = 0; slot < 6; slot++) {
            Check.same("clock(" + slot + "), 51 after its sign", desk.clock(slot), -1);
        }
    }

    private static void moreThanFiftyBeforeInOneStep() {
        Check.sentence("then all open sessions whose sign is more than 50 before the time are ended (in one step)");
        for (int d = 49; d <= 52; d++) {
            LeaseDesk desk = Check.deskWith(1);
            desk.tick(d);
            Check.same("clock(0) after tick(" + d + ")", desk.clock(0), d <= 50 ? 10 * d : -1);
        }
        LeaseDesk desk = Check.deskWith(1);
        desk.tick(100);
        Check.same("clock(0) after tick(100)", desk.clock(0), -1);
    }

    private static void eachSignForItself() {
        Check.sentence("then all open sessions whose sign is more than 50 before the time are ended (each by its own)");
        LeaseDesk desk = new LeaseDesk();
        for (int slot = 0; slot < 6; slot++) {
            desk.open();
            desk.tick(1);
        }
        desk.tick(44);
        for (int time = 50; time <= 56; time++) {
            Check.same("time()", desk.time(), time);
            for (int slot = 0; slot < 6; slot++) {
                int due = time - slot > 50 ? -1 : 10 * (time - slot);
                Check.same("clock(" + slot + ") at time " + time, desk.clock(slot), due);
            }
            desk.tick(1);
        }
    }

    private static void endedFromTheLeastSlot() {
        Check.sentence("are ended, from the least slot");
        LeaseDesk desk = Check.deskWith(6);
        for (int slot = 0; slot < 6; slot++) {
            desk.acquire(slot, 0, 100);
        }
        Check.same("tick(51): 0 ends, is followed by 1, which ends, ..", desk.tick(51), 6);
        Check.free("after it", desk, 0, 6);
        Check.row("after it", desk, 0);
    }

    private static void endedFromTheLeastSlotTheOtherWay() {
        Check.sentence("are ended, from the least slot (so the greatest last)");
        LeaseDesk desk = Check.deskWith(6);
        for (int slot = 5; slot >= 0; slot--) {
            desk.acquire(slot, 0, 100);
        }
        Check.same("tick(51): the row is gone before 5 ends", desk.tick(51), 1);
        Check.free("after it", desk, 0, 1);
        Check.row("after it", desk, 0);
    }

    private static void passedOnPastSilentSessions() {
        Check.sentence("are ended, from the least slot (a lock goes on past silent sessions to one that lives)");
        LeaseDesk desk = Check.deskWith(5);
        int[] order = {1, 3, 0, 4, 2};
        for (int slot : order) {
            desk.acquire(slot, 2, 60 + slot);
        }
        desk.tick(1);
        desk.keep(2);
        desk.keep(4);
        Check.same("tick(50): 0 leaves the row, 1 ends, 3 has it and ends, 4 lives", desk.tick(50), 2);
        Check.lease("at 51", desk, 2, 4, 3, 51 + 64);
        Check.row("at 51", desk, 2, 2);
        Check.same("tick(1): 2 leaves the row, 4 ends", desk.tick(1), 1);
        Check.free("at 52, with all ended", desk, 2, 3);
        Check.row("at 52, with all ended", desk, 2);
    }

    private static void anEndedSessionWaitsNoMore() {
        Check.sentence("To END a session: its requests are taken out of all rows (by a tick)");
        LeaseDesk desk = Scenes.full();
        for (int lock = 0; lock < 4; lock++) {
            desk.acquire(0, lock, 100);
        }
        desk.tick(40);
        Check.tickKeeping(desk, 9, 0, 1, 2, 4, 5);
        Check.row("3 is silent for 50", desk, 0, 1, 2, 3, 4, 5);
        Check.same("tick(1): 3 is silent for 51", desk.tick(1), 0);
        for (int lock = 0; lock < 4; lock++) {
            Check.row("without 3", desk, lock, 1, 2, 4, 5);
        }
        Check.same("clock(3)", desk.clock(3), -1);
    }

    private static void anEndedSessionsLocksArePassedOn() {
        Check.sentence("then the locks that it holds, from the least, are passed on (by a tick)");
        LeaseDesk desk = Check.deskWith(2);
        desk.acquire(0, 0, 100);
        desk.acquire(0, 3, 100);
        desk.acquire(1, 3, 60);
        desk.tick(30);
        desk.keep(1);
        Check.same("tick(21)", desk.tick(21), 2);
        Check.same("clock(0)", desk.clock(0), -1);
        Check.free("without 0", desk, 0, 1);
        Check.lease("without 0", desk, 3, 1, 2, 111);
        Check.row("without 0", desk, 3);
    }

    private static void endsAtThisTime() {
        Check.sentence("then all locks whose lease ends at this time");
        LeaseDesk desk = Check.deskWith(1);
        desk.acquire(0, 0, 10);
        Check.same("tick(9)", desk.tick(9), 0);
        Check.lease("one before its end", desk, 0, 0, 1, 10);
        Check.same("tick(1)", desk.tick(1), 1);
        Check.free("at its end", desk, 0, 1);
        Check.same("clock(0): the session goes on", desk.clock(0), 100);
    }

    private static void endsBeforeIt() {
        Check.sentence("or before it");
        LeaseDesk desk = Check.deskWith(1);
        desk.acquire(0, 0, 1);
        desk.acquire(0, 1, 49);
        Check.same("tick(50)", desk.tick(50), 2);
        Check.free("49 after its end", desk, 0, 1);
        Check.free("1 after its end", desk, 1, 1);
    }

    private static void eachLockForItself() {
        Check.sentence("then all locks whose lease ends at this time or before it, from the least, are passed on");
        LeaseDesk desk = Check.deskWith(2);
        desk.acquire(0, 0, 10);
        desk.acquire(0, 1, 11);
        desk.acquire(1, 2, 9);
        desk.acquire(1, 3, 12);
        Check.same("tick(10)", desk.tick(10), 2);
        int[] due = {-1, 0, -1, 1};
        for (int lock = 0; lock < 4; lock++) {
            Check.same("holder(" + lock + ") at 10", desk.holder(lock), due[lock]);
        }
        Check.same("tick(1)", desk.tick(1), 1);
        Check.same("holder(1) at 11", desk.holder(1), -1);
        Check.same("holder(3) at 11", desk.holder(3), 1);
        Check.same("tick(1)", desk.tick(1), 1);
        Check.same("holder(3) at 12", desk.holder(3), -1);
        Check.same("tick(1)", desk.tick(1), 0);
    }

    private static void passedOnToTheFirstOfTheRow() {
        Check.sentence("are passed on (to the first of a row)");
        LeaseDesk desk = Check.deskWith(3);
        desk.acquire(0, 0, 5);
        desk.acquire(2, 0, 1);
        desk.acquire(1, 0, 3);
        Check.same("tick(20)", desk.tick(20), 1);
        Check.lease("after tick(20)", desk, 0, 2, 2, 21);
        Check.row("after tick(20)", desk, 0, 1);
        Check.same("tick(1)", desk.tick(1), 1);
        Check.lease("after tick(1)", desk, 0, 1, 3, 24);
        Check.row("after tick(1)", desk, 0);
        Check.same("tick(3)", desk.tick(3), 1);
        Check.free("after tick(3)", desk, 0, 3);
    }

    private static void passedOnAfterTheClocksWentOn() {
        Check.sentence("The time goes on by d (and the clocks of the open sessions do); then");
        LeaseDesk desk = Check.deskWith(2);
        desk.acquire(0, 0, 10);
        desk.acquire(1, 0, 10);
        desk.tick(10);
        Check.same("believes(1, 0), 0 of 90", desk.believes(1, 0), true);
        desk.tick(8);
        Check.same("believes(1, 0), 80 of 90", desk.believes(1, 0), true);
        desk.tick(1);
        Check.same("believes(1, 0), 90 of 90", desk.believes(1, 0), false);
    }

    private static void aLeasePassedOnInATickIsNotDueInIt() {
        Check.sentence("are passed on (a lease of term 1, as a session is ended, ends after this time)");
        LeaseDesk desk = Check.deskWith(2);
        desk.acquire(0, 2, 100);
        desk.acquire(1, 2, 1);
        desk.tick(30);
        desk.keep(1);
        Check.same("tick(21)", desk.tick(21), 1);
        Check.lease("at 51", desk, 2, 1, 2, 52);
        Check.same("tick(0)", desk.tick(0), 0);
        Check.same("tick(1)", desk.tick(1), 1);
        Check.free("at 52", desk, 2, 2);
    }

    private static void sessionsEndBeforeLeasesDo() {
        Check.sentence("then all open sessions [..] are ended [..]; then all locks [..] are passed on");
        LeaseDesk desk = Check.deskWith(3);
        desk.acquire(0, 0, 40);
        desk.acquire(1, 0, 40);
        desk.tick(20);
        desk.keep(0);
        desk.acquire(2, 0, 40);
        Check.same("tick(31): 1 is silent, the lease of 0 is due", desk.tick(31), 1);
        Check.lease("without 1", desk, 0, 2, 2, 91);
        Check.row("without 1", desk, 0);
    }

    private static void noLeaseCameToItsEnd() {
        Check.sentence("how many leases came to their end in that (none)");
        LeaseDesk desk = Check.deskWith(3);
        desk.acquire(0, 0, 100);
        desk.acquire(1, 0, 100);
        desk.tick(20);
        desk.keep(0);
        Check.same("tick(31): 1 waits, 2 does nothing, both end", desk.tick(31), 0);
        Check.same("clock(1)", desk.clock(1), -1);
        Check.same("clock(2)", desk.clock(2), -1);
        Check.lease("without 1 and 2", desk, 0, 0, 1, 100);
    }

    private static void countsThoseOfEndedSessions() {
        Check.sentence("those of sessions as they are ended");
        LeaseDesk desk = Check.deskWith(6);
        desk.acquire(5, 0, 100);
        desk.acquire(5, 3, 100);
        desk.acquire(0, 1, 100);
        Check.same("tick(51)", desk.tick(51), 3);
    }

    private static void countsOneGrantedAMomentBefore() {
        Check.sentence("(also one that was granted to it a moment before, when another session was ended)");
        LeaseDesk desk = Check.deskWith(3);
        desk.acquire(0, 0, 100);
        desk.acquire(2, 0, 100);
        desk.acquire(1, 0, 100);
        Check.same("tick(51): 0 ends, 1 leaves the row of 2, 2 ends", desk.tick(51), 2);
        Check.free("after it", desk, 0, 2);
    }

    private static void countsTheMostThatOneTickCanEnd() {
        Check.sentence("how many leases came to their end in that (of four locks with full rows)");
        LeaseDesk desk = Check.deskWith(6);
        for (int lock = 0; lock < 4; lock++) {
            for (int slot = 0; slot < 6; slot++) {
                desk.acquire(slot, lock, 100);
            }
        }
        Check.same("tick(51)", desk.tick(51), 24);
        for (int lock = 0; lock < 4; lock++) {
            Check.free("after it", desk, lock, 6);
            Check.row("after it", desk, lock);
        }
    }

    private static void countsThosePassedOnAtTheirTime() {
        Check.sentence("and those passed on at their time");
        LeaseDesk desk = Check.deskWith(2);
        for (int lock = 0; lock < 4; lock++) {
            desk.acquire(0, lock, 10);
            desk.acquire(1, lock, 10);
        }
        Check.same("tick(10): all go to 1", desk.tick(10), 4);
        Check.same("tick(9)", desk.tick(9), 0);
        Check.same("tick(1): all are free", desk.tick(1), 4);
        Check.same("tick(1)", desk.tick(1), 0);
    }

    private static void countsALeaseOnce() {
        Check.sentence("those of sessions as they are ended [..], and those passed on at their time (one is not both)");
        LeaseDesk desk = Check.deskWith(2);
        desk.acquire(0, 1, 51);
        desk.acquire(0, 2, 20);
        desk.tick(10);
        desk.acquire(1, 1, 10);
        Check.same("tick(41): 0 is silent and its leases are due", desk.tick(41), 2);
        Check.lease("without 0", desk, 1, 1, 2, 61);
        Check.free("without 0", desk, 2, 1);
    }

    private static void countsBothKindsTogether() {
        Check.sentence("those of sessions as they are ended [..], and those passed on at their time (the sum)");
        LeaseDesk desk = Check.deskWith(2);
        desk.acquire(0, 0, 100);
        desk.acquire(0, 3, 100);
        desk.tick(10);
        desk.acquire(1, 1, 41);
        desk.acquire(1, 2, 42);
        Check.same("tick(41)", desk.tick(41), 3);
        Check.lease("not yet due", desk, 2, 1, 1, 52);
    }

    private static void notAStep() {
        Check.sentence("-1 if d is not 0 .. 100.");
        LeaseDesk desk = Check.deskWith(1);
        desk.acquire(0, 0, 1);
        for (int d : Outside.STEPS) {
            Check.same("tick(" + d + ")", desk.tick(d), -1);
            Check.same("time()", desk.time(), 0);
            Check.same("clock(0)", desk.clock(0), 0);
            Check.lease("after tick(" + d + ")", desk, 0, 0, 1, 1);
        }
        Check.same("tick(0)", desk.tick(0), 0);
        Check.same("tick(100)", desk.tick(100), 1);
        Check.same("time()", desk.time(), 100);
    }
}

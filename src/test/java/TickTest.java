/** Promise 6 (tick). */
public final class TickTest {
    public static void main(String[] args) {
        stepsOutOfRangeAreRefused();
        stepsAtTheEdgesAreTaken();
        clocksOfOpenSessionsGoOn();
        silentSessionsEnd();
        leasesEndAtTheirTime();
        aLeasePassedOnRunsFromNow();
        locksOfSilentSessionsArePassedOn();
        aLeaseGrantedAMomentBeforeCountsToo();
        aSessionThatEndedBeforeIsNotGranted();
        aSilentHolderAndADueLeaseCountOnce();
        sessionsEndBeforeLeasesDo();
        Check.end();
    }

    private static void stepsOutOfRangeAreRefused() {
        LeaseDesk desk = Check.deskWith(1);
        desk.acquire(0, 0, 1);
        String before = Check.view(desk);
        int[] noSteps = {-1, 101, Integer.MIN_VALUE, Integer.MAX_VALUE};
        for (int d : noSteps) {
            Check.same("tick(" + d + ")", desk.tick(d), -1);
        }
        Check.same("the view after refused ticks", Check.view(desk), before);
    }

    private static void stepsAtTheEdgesAreTaken() {
        LeaseDesk desk = Check.deskWith(1);
        desk.acquire(0, 0, 100);
        Check.same("tick(0)", desk.tick(0), 0);
        Check.same("time()", desk.time(), 0);
        Check.same("holder(0)", desk.holder(0), 0);
        Check.same("tick(100)", desk.tick(100), 1);
        Check.same("time()", desk.time(), 100);
    }

    private static void clocksOfOpenSessionsGoOn() {
        LeaseDesk desk = Check.deskWith(3);
        desk.rate(2, 9);
        desk.close(1);
        desk.tick(20);
        Check.same("clock(0)", desk.clock(0), 200);
        Check.same("clock(1)", desk.clock(1), -1);
        Check.same("clock(2)", desk.clock(2), 180);
        desk.open();
        Check.same("clock(1), opened later", desk.clock(1), 0);
        desk.tick(5);
        Check.same("clock(0)", desk.clock(0), 250);
        Check.same("clock(1)", desk.clock(1), 50);
        Check.same("clock(2)", desk.clock(2), 225);
    }

    private static void silentSessionsEnd() {
        LeaseDesk desk = Check.deskWith(2);
        desk.tick(1);
        desk.keep(1);
        Check.same("tick(49)", desk.tick(49), 0);
        Check.same("clock(0), 50 after its sign", desk.clock(0), 500);
        Check.same("tick(1)", desk.tick(1), 0);
        Check.same("clock(0), 51 after its sign", desk.clock(0), -1);
        Check.same("clock(1), 50 after its sign", desk.clock(1), 510);
        Check.same("open()", desk.open(), 0);
    }

    private static void leasesEndAtTheirTime() {
        LeaseDesk desk = Check.deskWith(2);
        desk.acquire(0, 0, 10);
        desk.acquire(0, 1, 11);
        desk.acquire(1, 2, 10);
        desk.acquire(1, 3, 12);
        Check.same("tick(9)", desk.tick(9), 0);
        Check.same("tick(1)", desk.tick(1), 2);
        Check.same("holder(0)", desk.holder(0), -1);
        Check.same("holder(1)", desk.holder(1), 0);
        Check.same("holder(2)", desk.holder(2), -1);
        Check.same("holder(3)", desk.holder(3), 1);
        Check.same("tick(5)", desk.tick(5), 2);
        Check.same("holder(1)", desk.holder(1), -1);
        Check.same("holder(3)", desk.holder(3), -1);
        Check.same("tick(5) with no lease", desk.tick(5), 0);
        Check.same("clock(0): a session outlives its leases", desk.clock(0), 200);
    }

    private static void aLeasePassedOnRunsFromNow() {
        LeaseDesk desk = Check.deskWith(3);
        desk.acquire(0, 0, 5);
        desk.acquire(1, 0, 1);
        desk.acquire(2, 0, 3);
        Check.same("tick(20)", desk.tick(20), 1);
        Check.same("holder(0)", desk.holder(0), 1);
        Check.same("token(0)", desk.token(0), 2);
        Check.same("until(0)", desk.until(0), 21);
        Check.same("waiter(0, 0)", desk.waiter(0, 0), 2);
        Check.same("waiter(0, 1): the old holder does not wait", desk.waiter(0, 1), -1);
        Check.same("tick(0)", desk.tick(0), 0);
        Check.same("tick(1)", desk.tick(1), 1);
        Check.same("holder(0)", desk.holder(0), 2);
        Check.same("until(0)", desk.until(0), 24);
    }

    private static void locksOfSilentSessionsArePassedOn() {
        LeaseDesk desk = Check.deskWith(2);
        desk.acquire(0, 0, 100);
        desk.acquire(0, 3, 100);
        desk.acquire(1, 3, 60);
        desk.tick(30);
        desk.keep(1);
        Check.same("tick(21)", desk.tick(21), 2);
        Check.same("clock(0)", desk.clock(0), -1);
        Check.same("holder(0)", desk.holder(0), -1);
        Check.same("until(0)", desk.until(0), -1);
        Check.same("holder(3)", desk.holder(3), 1);
        Check.same("until(3)", desk.until(3), 111);
    }

    private static void aLeaseGrantedAMomentBeforeCountsToo() {
        LeaseDesk desk = Check.deskWith(3);
        desk.acquire(0, 0, 100);
        desk.acquire(1, 0, 100);
        desk.acquire(2, 0, 100);
        Check.same("tick(51) ends 0, then 1, then 2", desk.tick(51), 3);
        Check.same("holder(0)", desk.holder(0), -1);
        Check.same("token(0)", desk.token(0), 3);
        Check.same("waiter(0, 0)", desk.waiter(0, 0), -1);
    }

    private static void aSessionThatEndedBeforeIsNotGranted() {
        LeaseDesk desk = Check.deskWith(3);
        desk.acquire(2, 0, 100);
        desk.acquire(1, 0, 100);
        desk.acquire(0, 0, 100);
        Check.same("tick(51) takes requests of 0 and 1 out before 2 ends", desk.tick(51), 1);
        Check.same("holder(0)", desk.holder(0), -1);
        Check.same("token(0)", desk.token(0), 1);
    }

    private static void aSilentHolderAndADueLeaseCountOnce() {
        LeaseDesk desk = Check.deskWith(2);
        desk.acquire(0, 1, 20);
        desk.tick(10);
        desk.acquire(1, 1, 10);
        Check.same("tick(41): 0 is silent and its lease is due", desk.tick(41), 1);
        Check.same("holder(1)", desk.holder(1), 1);
        Check.same("token(1)", desk.token(1), 2);
        Check.same("until(1)", desk.until(1), 61);
    }

    private static void sessionsEndBeforeLeasesDo() {
        LeaseDesk desk = Check.deskWith(3);
        desk.acquire(1, 0, 100);
        desk.tick(1);
        desk.acquire(0, 0, 10);
        desk.tick(19);
        desk.keep(1);
        desk.acquire(2, 0, 10);
        Check.same("tick(50): 0 leaves the row", desk.tick(50), 0);
        Check.same("waiter(0, 0)", desk.waiter(0, 0), 2);
        desk.keep(1);
        desk.keep(2);
        Check.same("tick(30): the lease of 1 is due", desk.tick(30), 1);
        Check.same("holder(0)", desk.holder(0), 2);
        Check.same("token(0)", desk.token(0), 2);
        aSilentWaiterIsNotGrantedADueLease();
    }

    private static void aSilentWaiterIsNotGrantedADueLease() {
        LeaseDesk desk = Check.deskWith(3);
        desk.acquire(0, 0, 40);
        desk.acquire(1, 0, 40);
        desk.tick(20);
        desk.keep(0);
        desk.acquire(2, 0, 40);
        Check.same("tick(31): 1 falls silent, the lease of 0 is due", desk.tick(31), 1);
        Check.same("holder(0)", desk.holder(0), 2);
        Check.same("token(0)", desk.token(0), 2);
        Check.same("until(0)", desk.until(0), 91);
    }
}

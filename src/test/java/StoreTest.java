/** Promises 17 (write), 18 (stored) and 19 (seen). */
public final class StoreTest {
    private static final int[] NO_LOCKS = {-1, 4, Integer.MIN_VALUE, Integer.MAX_VALUE};

    public static void main(String[] args) {
        tokensNotBelowTheOneSeenAreTaken();
        lowerTokensAreRefused();
        tokensBelowOneAreRefused();
        anyValueIsStored();
        eachLockHasItsOwn();
        theStoreAsksNoLock();
        noSuchLock();
        Check.end();
    }

    private static void tokensNotBelowTheOneSeenAreTaken() {
        LeaseDesk desk = new LeaseDesk();
        Check.same("write(0, 1, 10)", desk.write(0, 1, 10), true);
        Check.same("stored(0)", desk.stored(0), 10);
        Check.same("seen(0)", desk.seen(0), 1);
        Check.same("write(0, 1, 11), the same token", desk.write(0, 1, 11), true);
        Check.same("stored(0)", desk.stored(0), 11);
        Check.same("write(0, 5, 12), a gap", desk.write(0, 5, 12), true);
        Check.same("stored(0)", desk.stored(0), 12);
        Check.same("seen(0)", desk.seen(0), 5);
        Check.same("write(0, MAX, 13)", desk.write(0, Integer.MAX_VALUE, 13), true);
        Check.same("seen(0)", desk.seen(0), Integer.MAX_VALUE);
    }

    private static void lowerTokensAreRefused() {
        LeaseDesk desk = new LeaseDesk();
        desk.write(2, 3, 30);
        Check.same("write(2, 2, 20)", desk.write(2, 2, 20), false);
        Check.same("write(2, 1, 10)", desk.write(2, 1, 10), false);
        Check.same("stored(2)", desk.stored(2), 30);
        Check.same("seen(2)", desk.seen(2), 3);
    }

    private static void tokensBelowOneAreRefused() {
        LeaseDesk desk = new LeaseDesk();
        int[] noTokens = {0, -1, Integer.MIN_VALUE};
        for (int token : noTokens) {
            Check.same("write(1, " + token + ", 5)", desk.write(1, token, 5), false);
        }
        Check.same("stored(1)", desk.stored(1), 0);
        Check.same("seen(1)", desk.seen(1), 0);
    }

    private static void anyValueIsStored() {
        LeaseDesk desk = new LeaseDesk();
        int[] values = {0, -1, Integer.MIN_VALUE, Integer.MAX_VALUE};
        for (int v : values) {
            Check.same("write(3, 1, " + v + ")", desk.write(3, 1, v), true);
            Check.same("stored(3)", desk.stored(3), v);
        }
    }

    private static void eachLockHasItsOwn() {
        LeaseDesk desk = new LeaseDesk();
        for (int lock = 0; lock < 4; lock++) {
            desk.write(lock, lock + 1, lock + 100);
        }
        for (int lock = 0; lock < 4; lock++) {
            Check.same("stored(" + lock + ")", desk.stored(lock), lock + 100);
            Check.same("seen(" + lock + ")", desk.seen(lock), lock + 1);
        }
    }

    private static void theStoreAsksNoLock() {
        LeaseDesk desk = Check.deskWith(1);
        Check.same("write(0, 9, 1) before any lease", desk.write(0, 9, 1), true);
        Check.same("acquire(0, 0, 5)", desk.acquire(0, 0, 5), 1);
        Check.same("token(0)", desk.token(0), 1);
        Check.same("write(0, 1, 2) with the lease's token", desk.write(0, 1, 2), false);
        desk.acquire(0, 1, 5);
        desk.tick(5);
        Check.same("write(1, 1, 3) after the lease, none seen", desk.write(1, 1, 3), true);
        desk.close(0);
        Check.same("stored(1) stays", desk.stored(1), 3);
        Check.same("seen(0) stays", desk.seen(0), 9);
    }

    private static void noSuchLock() {
        LeaseDesk desk = new LeaseDesk();
        for (int lock = 0; lock < 4; lock++) {
            desk.write(lock, 1, 7);
        }
        for (int lock : NO_LOCKS) {
            Check.same("write(" + lock + ", 1, 8)", desk.write(lock, 1, 8), false);
            Check.same("stored(" + lock + ")", desk.stored(lock), 0);
            Check.same("seen(" + lock + ")", desk.seen(lock), -1);
        }
        for (int lock = 0; lock < 4; lock++) {
            Check.same("stored(" + lock + ")", desk.stored(lock), 7);
        }
    }
}

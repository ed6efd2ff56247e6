/** Promise 17: write. */
public final class WriteTest {
    public static void main(String[] args) {
        aGreaterToken();
        theTokenIsTheOneSeen();
        theSameToken();
        theFirstToken();
        theGreatestToken();
        aLowerToken();
        aTokenOneBelow();
        anyValue();
        tokenBelowOne();
        tokenBelowOneOnceOneIsSeen();
        noSuchLock();
        noSuchLockAndNoToken();
        eachLockForItself();
        asksNoLease();
        tokensOfLeases();
        Check.end();
    }

    private static void store(String when, LeaseDesk desk, int lock, int value, int seen) {
        Check.same("stored(" + lock + ") " + when, desk.stored(lock), value);
        Check.same("seen(" + lock + ") " + when, desk.seen(lock), seen);
    }

    private static void aGreaterToken() {
        Check.sentence("is the token not below the one seen for the lock (it is greater)");
        LeaseDesk desk = new LeaseDesk();
        Check.same("write(0, 2, 20)", desk.write(0, 2, 20), true);
        store("with 2", desk, 0, 20, 2);
        Check.same("write(0, 3, 30), one more", desk.write(0, 3, 30), true);
        store("with 3", desk, 0, 30, 3);
        Check.same("write(0, 50, 40), many more", desk.write(0, 50, 40), true);
        store("with 50", desk, 0, 40, 50);
    }

    private static void theTokenIsTheOneSeen() {
        Check.sentence("the value becomes v and the token is the one seen");
        LeaseDesk desk = new LeaseDesk();
        Check.same("write(3, 7, -1)", desk.write(3, 7, -1), true);
        store("with 7", desk, 3, -1, 7);
        Check.same("write(3, 6, 0), one below it", desk.write(3, 6, 0), false);
        Check.same("write(3, 7, 0), the one seen", desk.write(3, 7, 0), true);
        store("with 7 again", desk, 3, 0, 7);
    }

    private static void theSameToken() {
        Check.sentence("is the token not below the one seen for the lock (it is the same)");
        LeaseDesk desk = new LeaseDesk();
        desk.write(1, 4, 10);
        Check.same("write(1, 4, 11)", desk.write(1, 4, 11), true);
        store("with 4 again", desk, 1, 11, 4);
        Check.same("write(1, 4, 11), the same write", desk.write(1, 4, 11), true);
        store("with 4 again", desk, 1, 11, 4);
    }

    private static void theFirstToken() {
        Check.sentence("token is below 1 (1 is not)");
        LeaseDesk desk = new LeaseDesk();
        Check.same("write(3, 1, 10)", desk.write(3, 1, 10), true);
        store("with 1", desk, 3, 10, 1);
    }

    private static void theGreatestToken() {
        Check.sentence("is the token not below the one seen for the lock (the greatest int)");
        LeaseDesk desk = new LeaseDesk();
        Check.same("write(2, MAX, 1)", desk.write(2, Integer.MAX_VALUE, 1), true);
        store("with the greatest", desk, 2, 1, Integer.MAX_VALUE);
        Check.same("write(2, MAX - 1, 2)", desk.write(2, Integer.MAX_VALUE - 1, 2), false);
        Check.same("write(2, MIN, 3)", desk.write(2, Integer.MIN_VALUE, 3), false);
        store("as it was", desk, 2, 1, Integer.MAX_VALUE);
        Check.same("write(2, MAX, 4)", desk.write(2, Integer.MAX_VALUE, 4), true);
        store("with the greatest again", desk, 2, 4, Integer.MAX_VALUE);
    }

    private static void aLowerToken() {
        Check.sentence("else false");
        LeaseDesk desk = new LeaseDesk();
        desk.write(2, 30, 3);
        for (int token = 1; token < 30; token++) {
            Check.same("write(2, " + token + ", 99)", desk.write(2, token, 99), false);
        }
        store("as it was", desk, 2, 3, 30);
    }

    private static void aTokenOneBelow() {
        Check.sentence("else false (one below the one seen)");
        LeaseDesk desk = new LeaseDesk();
        for (int token = 2; token < 20; token++) {
            Check.same("write(0, " + token + ", 1)", desk.write(0, token, token), true);
            Check.same("write(0, " + (token - 1) + ", 99)", desk.write(0, token - 1, 99), false);
            store("as it was", desk, 0, token, token);
        }
    }

    private static void anyValue() {
        Check.sentence("the value becomes v");
        LeaseDesk desk = new LeaseDesk();
        int[] values = {1, 0, -1, 256, Integer.MIN_VALUE, Integer.MAX_VALUE};
        for (int v : values) {
            Check.same("write(3, 1, " + v + ")", desk.write(3, 1, v), true);
            store("after it", desk, 3, v, 1);
        }
    }

    private static void tokenBelowOne() {
        Check.sentence("or token is below 1. (None is seen yet.)");
        LeaseDesk desk = new LeaseDesk();
        for (int lock = 0; lock < 4; lock++) {
            for (int token : Outside.TOKENS) {
                Check.same("write(" + lock + ", " + token + ", 5)", desk.write(lock, token, 5), false);
            }
            store("as it was", desk, lock, 0, 0);
        }
    }

    private static void tokenBelowOneOnceOneIsSeen() {
        Check.sentence("or token is below 1. (One is seen.)");
        LeaseDesk desk = new LeaseDesk();
        desk.write(0, 1, 7);
        for (int token : Outside.TOKENS) {
            Check.same("write(0, " + token + ", 5)", desk.write(0, token, 5), false);
        }
        store("as it was", desk, 0, 7, 1);
    }

    private static void noSuchLock() {
        Check.sentence("also if there is no such lock");
        LeaseDesk desk = new LeaseDesk();
        for (int lock : Outside.LOCKS) {
            Check.same("write(" + lock + ", 1, 8)", desk.write(lock, 1, 8), false);
            Check.same("write(" + lock + ", MAX, 8)", desk.write(lock, Integer.MAX_VALUE, 8), false);
        }
        for (int lock = 0; lock < 4; lock++) {
            store("as it was", desk, lock, 0, 0);
            Check.same("write(" + lock + ", 1, 8)", desk.write(lock, 1, 8), true);
        }
    }

    private static void noSuchLockAndNoToken() {
        Check.sentence("also if there is no such lock or token is below 1. (Both.)");
        LeaseDesk desk = new LeaseDesk();
        Check.same("write(4, 0, 1)", desk.write(4, 0, 1), false);
        Check.same("write(-1, -1, 1)", desk.write(-1, -1, 1), false);
        Check.same("write(MIN, MIN, 1)", desk.write(Integer.MIN_VALUE, Integer.MIN_VALUE, 1), false);
    }

    private static void eachLockForItself() {
        Check.sentence("the one seen for the lock");
        LeaseDesk desk = new LeaseDesk();
        for (int lock = 0; lock < 4; lock++) {
            Check.same("write, the greater lock with the lower token", desk.write(lock, 10 - lock, 100 + lock), true);
        }
        for (int lock = 0; lock < 4; lock++) {
            store("of its own", desk, lock, 100 + lock, 10 - lock);
        }
    }

    private static void asksNoLease() {
        Check.sentence("A write: is the token not below the one seen for the lock (whoever has the lock)");
        LeaseDesk desk = Check.deskWith(1);
        Check.same("write(0, 9, 1) before any lease", desk.write(0, 9, 1), true);
        Check.same("acquire(0, 0, 5)", desk.acquire(0, 0, 5), 1);
        Check.same("write(0, 1, 2) with the lease's token", desk.write(0, 1, 2), false);
        Check.same("token(0): a write gives none", desk.token(0), 1);
        desk.acquire(0, 1, 5);
        desk.tick(5);
        Check.same("write(1, 1, 3) after the lease, none seen", desk.write(1, 1, 3), true);
    }

    private static void tokensOfLeases() {
        Check.sentence("a store behind takes only writes whose token is not below one that it has seen");
        LeaseDesk desk = Check.deskWith(2);
        int old = desk.acquire(0, 2, 10);
        desk.acquire(1, 2, 10);
        Check.same("write with the first token", desk.write(2, old, 5), true);
        desk.tick(10);
        Check.same("write with the first token, the second not seen", desk.write(2, old, 6), true);
        Check.same("write with the second token", desk.write(2, desk.token(2), 7), true);
        Check.same("write with the first token, the second seen", desk.write(2, old, 8), false);
        store("by the second", desk, 2, 7, 2);
    }
}

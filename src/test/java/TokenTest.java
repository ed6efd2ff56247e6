/** Promise 11: token, and "Tokens of a lock are 1, 2, 3, .. in the order of its leases." */
public final class TokenTest {
    public static void main(String[] args) {
        oneTwoThree();
        inTheOrderOfItsLeases();
        eachLockHasItsOwn();
        asManyAsTheCallsAllow();
        theLatest();
        notByOtherCalls();
        neverLent();
        noSuchLock();
        Check.end();
    }

    private static void oneTwoThree() {
        Check.sentence("Tokens of a lock are 1, 2, 3, ..");
        LeaseDesk desk = Check.deskWith(2);
        for (int token = 1; token <= 20; token++) {
            Check.same("acquire", desk.acquire(token % 2, 1, 10), token);
            Check.same("token(1)", desk.token(1), token);
            desk.release(token % 2, 1);
            Check.same("token(1), released", desk.token(1), token);
        }
    }

    private static void inTheOrderOfItsLeases() {
        Check.sentence("in the order of its leases");
        LeaseDesk desk = Check.deskWith(4);
        for (int slot = 0; slot < 4; slot++) {
            desk.acquire(slot, 0, 10);
        }
        Check.same("token(0)", desk.token(0), 1);
        desk.tick(10);
        Check.same("token(0) after a tick", desk.token(0), 2);
        desk.close(1);
        Check.same("token(0) after a close", desk.token(0), 3);
        desk.release(2, 0);
        Check.same("token(0) after a release", desk.token(0), 4);
        Check.same("acquire(3, 0, 50) by the holder", desk.acquire(3, 0, 50), 4);
        desk.tick(51);
        Check.free("after its holder's silence", desk, 0, 4);
        desk.open();
        Check.same("acquire(0, 0, 1)", desk.acquire(0, 0, 1), 5);
    }

    private static void eachLockHasItsOwn() {
        Check.sentence("Tokens of a lock (of each lock)");
        LeaseDesk desk = Check.deskWith(1);
        for (int lock = 0; lock < 4; lock++) {
            for (int lease = 0; lease < lock; lease++) {
                desk.acquire(0, lock, 1);
                desk.release(0, lock);
            }
        }
        for (int lock = 0; lock < 4; lock++) {
            Check.same("token(" + lock + ")", desk.token(lock), lock);
        }
    }

    private static void asManyAsTheCallsAllow() {
        Check.sentence("An object is used for at most 512 calls (a token beyond what a byte holds)");
        LeaseDesk desk = Check.deskWith(1);
        for (int token = 1; token <= 255; token++) {
            desk.acquire(0, 2, 1);
            desk.release(0, 2);
        }
        Check.same("token(2), the object's 512th call", desk.token(2), 255);
        LeaseDesk other = Check.deskWith(6);
        for (int round = 0; round < 10; round++) {
            for (int slot = 0; slot < 6; slot++) {
                other.acquire(slot, 3, 100);
            }
            other.acquire(0, 0, 100);
            Check.same("tick(51)", other.tick(51), 7);
            for (int slot = 0; slot < 6; slot++) {
                other.open();
            }
        }
        Check.same("token(3)", other.token(3), 60);
        Check.same("token(0)", other.token(0), 10);
    }

    private static void theLatest() {
        Check.sentence("The latest token of the lock (also of one that is free)");
        LeaseDesk desk = Check.deskWith(1);
        desk.acquire(0, 0, 5);
        Check.same("token(0), lent", desk.token(0), 1);
        desk.tick(5);
        Check.same("token(0), free", desk.token(0), 1);
        desk.close(0);
        Check.same("token(0), no session open", desk.token(0), 1);
    }

    private static void notByOtherCalls() {
        Check.sentence("The latest token of the lock (no request that waits has one, and no write gives one)");
        LeaseDesk desk = Check.deskWith(3);
        desk.acquire(0, 0, 5);
        desk.acquire(1, 0, 5);
        desk.acquire(2, 0, 5);
        desk.cancel(1, 0);
        desk.write(0, 9, 9);
        Check.same("token(0)", desk.token(0), 1);
        desk.release(0, 0);
        Check.same("token(0)", desk.token(0), 2);
    }

    private static void neverLent() {
        Check.sentence("0 if it was never lent");
        LeaseDesk desk = Check.deskWith(1);
        desk.acquire(0, 1, 10);
        desk.tick(5);
        Check.same("token(0)", desk.token(0), 0);
        Check.same("token(1)", desk.token(1), 1);
        Check.same("token(2)", desk.token(2), 0);
        Check.same("token(3)", desk.token(3), 0);
    }

    private static void noSuchLock() {
        Check.sentence("-1 if there is no such lock.");
        LeaseDesk desk = Scenes.full();
        for (int lock : Outside.LOCKS) {
            Check.same("token(" + lock + ")", desk.token(lock), -1);
            Check.same("token(" + lock + ") of a new desk", new LeaseDesk().token(lock), -1);
        }
        Check.same("token(0), the least lock", desk.token(0), 1);
        Check.same("token(3), the greatest lock", desk.token(3), 1);
    }
}

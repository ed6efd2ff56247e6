/** Promise 1. */
public final class NewObjectTest {
    public static void main(String[] args) {
        LeaseDesk desk = new LeaseDesk();
        Check.same("time()", desk.time(), 0);
        for (int slot = 0; slot < 6; slot++) {
            Check.same("clock", desk.clock(slot), -1);
        }
        for (int lock = 0; lock < 4; lock++) {
            Check.same("holder", desk.holder(lock), -1);
            Check.same("token", desk.token(lock), 0);
            Check.same("until", desk.until(lock), -1);
            Check.same("waiter", desk.waiter(lock, 0), -1);
            Check.same("stored", desk.stored(lock), 0);
            Check.same("seen", desk.seen(lock), 0);
        }
        objectsShareNothing();
        Check.end();
    }

    private static void objectsShareNothing() {
        LeaseDesk used = Check.deskWith(2);
        String fresh = Check.view(new LeaseDesk());
        used.acquire(0, 1, 10);
        used.acquire(1, 1, 10);
        used.write(1, 1, 5);
        used.tick(3);
        Check.same("a second desk's view", Check.view(new LeaseDesk()), fresh);
    }
}

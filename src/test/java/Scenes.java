/**
 * States in which calls are refused. No session's latest sign is at the scene's time, so that a stray sign shows, and
 * few rates are the one of a new session, so that a stray reset shows.
 */
final class Scenes {
    private Scenes() {
    }

    /** All slots free, all locks free, all rows empty, nothing in the store. */
    static LeaseDesk fresh() {
        return new LeaseDesk();
    }

    /**
     * Time 9. Slot 4 is free, the others are open, with all rates. Lock 0 is lent to 0 and 1, 2, 3 wait; lock 1 is lent
     * to 5 and 0 waits; lock 2 is free after one lease; lock 3 was never lent. Tokens seen: 1, 3, 1 and 0.
     */
    static LeaseDesk busy() {
        LeaseDesk desk = Check.deskWith(6);
        desk.rate(1, 9);
        desk.rate(2, 11);
        desk.rate(5, 11);
        desk.close(4);
        desk.acquire(0, 2, 3);
        desk.release(0, 2);
        desk.acquire(0, 0, 20);
        desk.tick(3);
        desk.acquire(1, 0, 12);
        desk.tick(2);
        desk.acquire(2, 0, 9);
        desk.acquire(3, 0, 30);
        desk.acquire(5, 1, 15);
        desk.acquire(0, 1, 8);
        desk.write(0, 1, 70);
        desk.write(1, 3, -5);
        desk.write(2, 1, 9);
        desk.tick(4);
        return desk;
    }

    /** Time 1. All slots are taken; every lock is lent to 0 and has all others in its row, which is full so. */
    static LeaseDesk full() {
        LeaseDesk desk = Check.deskWith(6);
        for (int slot = 0; slot < 6; slot++) {
            desk.rate(slot, slot % 2 == 0 ? 9 : 11);
        }
        for (int lock = 0; lock < 4; lock++) {
            for (int slot = 0; slot < 6; slot++) {
                desk.acquire(slot, lock, 10 + slot + lock);
            }
        }
        desk.tick(1);
        return desk;
    }
}

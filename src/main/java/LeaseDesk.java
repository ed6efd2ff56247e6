import java.util.NoSuchElementException;

/** A service that lends locks for a time. */
public final class LeaseDesk {
    private static final int SLOTS = 6;
    private static final int LOCKS = 4;
    private static final int NONE = -1;
    private static final int REFUSED = -1;

    private static final int LONGEST_SILENCE = 50;
    private static final int LONGEST_STEP = 100;
    private static final int LONGEST_TERM = 100;

    private static final int SLOWEST_RATE = 9;
    private static final int TRUE_RATE = 10;
    private static final int FASTEST_RATE = 11;

    private final Session[] sessions;
    private final Lock[] locks;
    private int now;

    public LeaseDesk() {
        // All that a desk ever needs is made here and used again: no later call makes an object but what it throws.
        sessions = new Session[SLOTS];
        for (int slot = 0; slot < SLOTS; slot++) {
            sessions[slot] = new Session();
        }
        locks = new Lock[LOCKS];
        for (int lock = 0; lock < LOCKS; lock++) {
            locks[lock] = new Lock();
        }
        now = 0;
    }

    public int open() throws IllegalStateException {
        for (int slot = 0; slot < SLOTS; slot++) {
            if (!sessions[slot].isOpen) {
                sessions[slot].begin(now);
                return slot;
            }
        }
        throw new IllegalStateException("no slot is free");
    }

    public int close(int slot) throws NoSuchElementException {
        return endSession(requireSession(slot), slot);
    }

    public void keep(int slot) throws NoSuchElementException {
        requireSession(slot).sign = now;
    }

    public boolean rate(int slot, int r) {
        Session session = openSession(slot);
        if (session == null || r < SLOWEST_RATE || r > FASTEST_RATE) {
            return false;
        }
        session.rate = r;
        return true;
    }

    public int tick(int d) {
        if (d < 0 || d > LONGEST_STEP) {
            return REFUSED;
        }
        now += d;
        moveClocks(d);
        int leasesEnded = endSilentSessions();
        leasesEnded += passOnLeasesDue();
        return leasesEnded;
    }

    public int acquire(int slot, int lock, int term) throws NoSuchElementException, IllegalArgumentException {
        Session session = requireSession(slot);
        Lock wanted = requireLock(lock);
        if (term < 1 || term > LONGEST_TERM) {
            throw new IllegalArgumentException("the term is not 1 to 100");
        }
        session.sign = now;
        if (wanted.holder == slot) {
            wanted.renew(term, now, session.clock);
            return wanted.token;
        }
        if (wanted.isFree()) {
            wanted.lend(slot, term, now, session.clock);
            return wanted.token;
        }
        wanted.row.ask(slot, term);
        return 0;
    }

    public void release(int slot, int lock)
            throws NoSuchElementException, IllegalArgumentException, IllegalStateException {
        requireSession(slot);
        Lock held = requireLock(lock);
        if (held.holder != slot) {
            throw new IllegalStateException("the session does not hold the lock");
        }
        passOn(held);
    }

    public boolean cancel(int slot, int lock) {
        Lock wanted = knownLock(lock);
        return wanted != null && wanted.row.drop(slot);
    }

    public int holder(int lock) {
        Lock asked = knownLock(lock);
        return asked == null ? NONE : asked.holder;
    }

    public int token(int lock) {
        Lock asked = knownLock(lock);
        return asked == null ? NONE : asked.token;
    }

    public int until(int lock) {
        Lock asked = knownLock(lock);
        return asked == null || asked.isFree() ? NONE : asked.ends;
    }

    public int waiter(int lock, int k) {
        Lock asked = knownLock(lock);
        return asked == null ? NONE : asked.row.slotAt(k);
    }

    public int time() {
        return now;
    }

    public int clock(int slot) {
        Session session = openSession(slot);
        return session == null ? NONE : session.clock;
    }

    public boolean believes(int slot, int lock) {
        Session session = openSession(slot);
        Lock held = knownLock(lock);
        if (session == null || held == null || held.holder != slot) {
            return false;
        }
        // Even the slowest clock shows this much only when the whole term has gone by.
        return session.clock - held.start < SLOWEST_RATE * held.term;
    }

    public boolean write(int lock, int token, int v) {
        Lock written = knownLock(lock);
        if (written == null || token < 1 || token < written.seenToken) {
            return false;
        }
        written.seenToken = token;
        written.value = v;
        return true;
    }

    public int stored(int lock) {
        Lock asked = knownLock(lock);
        return asked == null ? 0 : asked.value;
    }

    public int seen(int lock) {
        Lock asked = knownLock(lock);
        return asked == null ? NONE : asked.seenToken;
    }

    /** The open session in this slot, or null, so that every caller tests slot and openness in one. */
    private Session openSession(int slot) {
        if (slot < 0 || slot >= SLOTS || !sessions[slot].isOpen) {
            return null;
        }
        return sessions[slot];
    }

    /** The lock, or null if there is no such lock. */
    private Lock knownLock(int lock) {
        return lock < 0 || lock >= LOCKS ? null : locks[lock];
    }

    private Session requireSession(int slot) {
        Session session = openSession(slot);
        if (session == null) {
            throw new NoSuchElementException("the session is not open");
        }
        return session;
    }

    private Lock requireLock(int lock) {
        Lock known = knownLock(lock);
        if (known == null) {
            throw new IllegalArgumentException("there is no such lock");
        }
        return known;
    }

    private void moveClocks(int d) {
        for (Session session : sessions) {
            if (session.isOpen) {
                session.clock += session.rate * d;
            }
        }
    }

    private int endSilentSessions() {
        int leasesEnded = 0;
        for (int slot = 0; slot < SLOTS; slot++) {
            Session session = sessions[slot];
            if (session.isOpen && now - session.sign > LONGEST_SILENCE) {
                leasesEnded += endSession(session, slot);
            }
        }
        return leasesEnded;
    }

    private int passOnLeasesDue() {
        int leasesEnded = 0;
        for (Lock lock : locks) {
            if (!lock.isFree() && lock.ends <= now) {
                passOn(lock);
                leasesEnded++;
            }
        }
        return leasesEnded;
    }

    private int endSession(Session session, int slot) {
        // All requests go before any lock is passed on, or a lock could come back to the session that ends.
        for (Lock lock : locks) {
            lock.row.drop(slot);
        }
        int held = 0;
        for (Lock lock : locks) {
            if (lock.holder == slot) {
                passOn(lock);
                held++;
            }
        }
        session.isOpen = false;
        return held;
    }

    private void passOn(Lock lock) {
        lock.holder = NONE;
        int next = lock.row.slotAt(0);
        if (next != NONE) {
            int term = lock.row.termAt(0);
            lock.row.drop(next);
            lock.lend(next, term, now, clock(next));
        }
    }

    private static final class Session {
        boolean isOpen;
        int sign;
        int rate;
        int clock;

        void begin(int now) {
            isOpen = true;
            sign = now;
            rate = TRUE_RATE;
            clock = 0;
        }
    }

    /** A lock with its latest lease, its row, and what the store has for it. */
    private static final class Lock {
        final Row row = new Row();
        int holder = NONE;
        int token;
        int ends;
        int term;
        int start;
        int seenToken;
        int value;

        boolean isFree() {
            return holder == NONE;
        }

        void lend(int slot, int newTerm, int now, int clock) {
            holder = slot;
            token++;
            runFrom(now, newTerm, clock);
        }

        void renew(int newTerm, int now, int clock) {
            // A renewal that gains no time must leave term and start, or believes() would judge by the wrong term.
            if (now + newTerm > ends) {
                runFrom(now, newTerm, clock);
            }
        }

        private void runFrom(int now, int newTerm, int clock) {
            ends = now + newTerm;
            term = newTerm;
            start = clock;
        }
    }

    /** The requests that wait for a lock, the first at place 0. */
    private static final class Row {
        private final int[] slots = new int[SLOTS];
        private final int[] terms = new int[SLOTS];
        private int length;

        int slotAt(int place) {
            return isTaken(place) ? slots[place] : NONE;
        }

        int termAt(int place) {
            return isTaken(place) ? terms[place] : 0;
        }

        void ask(int slot, int term) {
            int place = placeOf(slot);
            if (place != NONE) {
                terms[place] = term;
            } else if (length < SLOTS) {
                slots[length] = slot;
                terms[length] = term;
                length++;
            }
        }

        boolean drop(int slot) {
            int place = placeOf(slot);
            if (place == NONE) {
                return false;
            }
            length--;
            for (int i = place; i < length; i++) {
                slots[i] = slots[i + 1];
                terms[i] = terms[i + 1];
            }
            return true;
        }

        private boolean isTaken(int place) {
            return place >= 0 && place < length;
        }

        private int placeOf(int slot) {
            for (int place = 0; place < length; place++) {
                if (slots[place] == slot) {
                    return place;
                }
            }
            return NONE;
        }
    }
}

import java.util.List;

/** The sentences of "Terms" that hold at any time: after drawn runs of every length, by the questions alone. */
public final class AlwaysTest {
    private static final int RUNS = 4000;
    private static final int LONGEST_HALF = 210;

    public static void main(String[] args) {
        for (int seed = 0; seed < RUNS; seed++) {
            afterARun(seed);
        }
        Check.end();
    }

    /** What never goes back is asked for in the middle of the run too. */
    private static void afterARun(int seed) {
        String run = "after run " + seed;
        LeaseDesk desk = new LeaseDesk();
        Calls calls = new Calls(seed);
        makeAll(desk, calls.next(seed % LONGEST_HALF));
        int[] before = whatNeverGoesBack(desk);
        makeAll(desk, calls.next(seed * 11 % LONGEST_HALF));
        neverBack(run, before, whatNeverGoesBack(desk));
        int time = desk.time();
        boolean[] isOpen = new boolean[6];
        for (int slot = 0; slot < 6; slot++) {
            isOpen[slot] = desk.clock(slot) != -1;
        }
        for (int lock = 0; lock < 4; lock++) {
            String told = "of lock " + lock + " " + run;
            int holder = desk.holder(lock);
            lease(told, desk, lock, holder, isOpen, time);
            row(told, desk, lock, holder, isOpen);
            beliefs(told, desk, lock, holder);
        }
    }

    private static void makeAll(LeaseDesk desk, List<Call> calls) {
        for (Call call : calls) {
            call.on(desk);
        }
    }

    private static int[] whatNeverGoesBack(LeaseDesk desk) {
        return new int[] {
            desk.time(),
            desk.token(0), desk.token(1), desk.token(2), desk.token(3),
            desk.seen(0), desk.seen(1), desk.seen(2), desk.seen(3),
        };
    }

    private static void neverBack(String run, int[] before, int[] after) {
        String[] sentences = {
            "TIME [..] goes on", "each lease has a token that is greater than all before it", "the greatest token SEEN",
        };
        for (int i = 0; i < before.length; i++) {
            Check.sentence(sentences[(i + 3) / 4]);
            String told = "not back, from " + before[i] + " to " + after[i] + ", " + run;
            Check.same(told, after[i] >= before[i], true);
        }
    }

    private static void lease(String told, LeaseDesk desk, int lock, int holder, boolean[] isOpen, int time) {
        Check.sentence("A lock is FREE, or LENT to an open session");
        Check.same("an open holder " + told, holder == -1 || isOpen[holder], true);
        int until = desk.until(lock);
        if (holder == -1) {
            Check.same("until " + told, until, -1);
            return;
        }
        Check.sentence("then all locks whose lease ends at this time or before it, from the least, are passed on");
        Check.same("until, after the time, " + told, until > time, true);
        Check.sentence("it ends at the time plus the term; term is [..] 1 .. 100");
        Check.same("until, at most 100 after the time, " + told, until <= time + 100, true);
        Check.sentence("Tokens of a lock are 1, 2, 3, ..");
        Check.same("a token " + told, desk.token(lock) >= 1, true);
    }

    private static void row(String told, LeaseDesk desk, int lock, int holder, boolean[] isOpen) {
        boolean[] waits = new boolean[6];
        boolean isBehindTheLast = false;
        for (int k = 0; k < 6; k++) {
            int slot = desk.waiter(lock, k);
            if (slot == -1) {
                isBehindTheLast = true;
                continue;
            }
            Check.sentence("The k-th session (0 the first) in the lock's row");
            Check.same("no gap in the row " + told, isBehindTheLast, false);
            Check.sentence("a ROW of requests that wait: of an open session and a term");
            Check.same("an open session in the row " + told, isOpen[slot], true);
            Check.sentence("at most one of each session");
            Check.same("a second request in the row " + told, waits[slot], false);
            Check.sentence("none of the session that holds it.");
            Check.same("the holder in the row " + told, slot == holder, false);
            Check.sentence("To PASS ON a lock: [..] is its row not empty, the first request of it is granted.");
            Check.same("a free lock with a row " + told, holder == -1, false);
            waits[slot] = true;
        }
    }

    private static void beliefs(String told, LeaseDesk desk, int lock, int holder) {
        Check.sentence("never believes in a lease that has ended");
        for (int slot = 0; slot < 6; slot++) {
            Check.same("a belief without a lease " + told, desk.believes(slot, lock) && slot != holder, false);
        }
    }
}

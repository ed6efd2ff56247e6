/** Promise 16 (believes). */
public final class BelievesTest {
    public static void main(String[] args) {
        byEachRate();
        byTheStart();
        aNewRateCountsFromThere();
        onlyTheHolder();
        wrongInputs();
        Check.end();
    }

    /** Of a term of 100: 9 times it is 900, and the clock must be less than that. */
    private static void byEachRate() {
        int[] lastTrue = {99, 89, 81};
        for (int r = 9; r <= 11; r++) {
            LeaseDesk desk = Check.deskWith(1);
            desk.rate(0, r);
            desk.acquire(0, 0, 100);
            for (int time = 1; time <= 100; time++) {
                Check.tickKeeping(desk, 1);
                boolean due = time <= lastTrue[r - 9];
                Check.same("believes(0, 0) at rate " + r + ", time " + time, desk.believes(0, 0), due);
            }
        }
    }

    private static void byTheStart() {
        LeaseDesk desk = Check.deskWith(2);
        desk.tick(30);
        desk.acquire(0, 0, 10);
        desk.acquire(1, 0, 20);
        Check.same("believes(0, 0) at once", desk.believes(0, 0), true);
        desk.tick(8);
        Check.same("believes(0, 0), 80 of 90", desk.believes(0, 0), true);
        desk.tick(1);
        Check.same("believes(0, 0), 90 of 90", desk.believes(0, 0), false);
        desk.tick(1);
        Check.same("believes(1, 0), granted from the row", desk.believes(1, 0), true);
        Check.tickKeeping(desk, 17);
        Check.same("believes(1, 0), 170 of 180", desk.believes(1, 0), true);
        desk.acquire(1, 0, 4);
        Check.tickKeeping(desk, 3);
        Check.same("believes(1, 0), 30 of 36 since the renewal", desk.believes(1, 0), true);
        Check.same("until(0)", desk.until(0), 61);
    }

    private static void aNewRateCountsFromThere() {
        LeaseDesk desk = Check.deskWith(1);
        desk.rate(0, 9);
        desk.acquire(0, 0, 10);
        desk.tick(5);
        desk.rate(0, 11);
        desk.tick(4);
        Check.same("clock(0)", desk.clock(0), 89);
        Check.same("believes(0, 0), 89 of 90", desk.believes(0, 0), true);
    }

    private static void onlyTheHolder() {
        LeaseDesk desk = Check.deskWith(3);
        desk.acquire(0, 0, 10);
        desk.acquire(1, 0, 10);
        Check.same("believes(1, 0), which waits", desk.believes(1, 0), false);
        Check.same("believes(2, 0), a stranger", desk.believes(2, 0), false);
        Check.same("believes(0, 1), a free lock", desk.believes(0, 1), false);
        desk.release(0, 0);
        Check.same("believes(0, 0), released", desk.believes(0, 0), false);
        Check.same("believes(1, 0)", desk.believes(1, 0), true);
        desk.close(1);
        Check.same("believes(1, 0), closed", desk.believes(1, 0), false);
        desk.open();
        Check.same("believes(1, 0), a new session", desk.believes(1, 0), false);
    }

    private static void wrongInputs() {
        LeaseDesk desk = Check.deskWith(1);
        desk.acquire(0, 0, 10);
        int[] none = {-1, 6, Integer.MIN_VALUE, Integer.MAX_VALUE};
        for (int no : none) {
            Check.same("believes(" + no + ", 0)", desk.believes(no, 0), false);
            Check.same("believes(" + no + ", 1), a free lock", desk.believes(no, 1), false);
            Check.same("believes(0, " + no + ")", desk.believes(0, no), false);
            Check.same("believes(" + no + ", " + no + ")", desk.believes(no, no), false);
        }
        Check.same("believes(0, 4)", desk.believes(0, 4), false);
        Check.same("believes(5, 0), not open", desk.believes(5, 0), false);
    }
}

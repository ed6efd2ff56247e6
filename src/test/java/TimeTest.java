/** Promise 14: time. */
public final class TimeTest {
    public static void main(String[] args) {
        zeroAtFirst();
        byTickAlone();
        notByARefusedTick();
        asFarAsTheCallsAllow();
        Check.end();
    }

    private static void zeroAtFirst() {
        Check.sentence("TIME is an int, 0 at first");
        Check.same("time()", new LeaseDesk().time(), 0);
    }

    private static void byTickAlone() {
        Check.sentence("it goes on by tick() alone");
        LeaseDesk desk = Check.deskWith(2);
        desk.tick(3);
        desk.keep(0);
        desk.rate(0, 11);
        desk.acquire(0, 0, 10);
        desk.acquire(1, 0, 10);
        desk.cancel(1, 0);
        desk.release(0, 0);
        desk.write(0, 1, 1);
        desk.close(1);
        desk.open();
        for (Call question : Questions.ALL) {
            question.on(desk);
        }
        Check.same("time() after every other call", desk.time(), 3);
        desk.tick(0);
        Check.same("time() after tick(0)", desk.time(), 3);
        desk.tick(1);
        Check.same("time() after tick(1)", desk.time(), 4);
        desk.tick(100);
        Check.same("time() after tick(100)", desk.time(), 104);
    }

    private static void notByARefusedTick() {
        Check.sentence("A call that [..] is refused [..] changes nothing. (The time.)");
        LeaseDesk desk = new LeaseDesk();
        desk.tick(7);
        for (int d : Outside.STEPS) {
            desk.tick(d);
            Check.same("time() after tick(" + d + ")", desk.time(), 7);
        }
    }

    private static void asFarAsTheCallsAllow() {
        Check.sentence("The time. (After 511 times the longest step, as the object's 512th call.)");
        LeaseDesk desk = new LeaseDesk();
        for (int i = 0; i < 511; i++) {
            desk.tick(100);
        }
        Check.same("time()", desk.time(), 51100);
    }
}

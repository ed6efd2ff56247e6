/**
 * A call that throws or is refused changes nothing, nor does a question. What does not show at once (a sign, a rate, a
 * term in a row) shows later: of two desks with the same calls, one also has refused calls and questions in between.
 */
public final class NothingChangesTest {
    private static final int RUNS = 600;
    private static final int CALLS_OF_A_RUN = 400;

    public static void main(String[] args) {
        for (int seed = 0; seed < RUNS; seed++) {
            if (!twinsAgree(seed)) {
                break;
            }
        }
        manyCallsBeyondTheLimitThrowNothingElse();
        Check.end();
    }

    private static boolean twinsAgree(int seed) {
        LeaseDesk full = new LeaseDesk();
        LeaseDesk spare = new LeaseDesk();
        Calls calls = new Calls(seed);
        for (int i = 0; i < CALLS_OF_A_RUN; i++) {
            int[] call = calls.next();
            String answer = Desk.make(full, call);
            if (!Desk.isRefusal(answer)) {
                Check.same("run " + seed + ", call " + i + " on its twin: " + Desk.told(call),
                    Desk.make(spare, call), answer);
            }
            String view = Check.view(full);
            if (calls.chance(10) && !Check.view(spare).equals(view)) {
                Check.same("run " + seed + ", the twin's view after call " + i, Check.view(spare), view);
                return false;
            }
        }
        return true;
    }

    /** After its 512th call a desk may answer what it likes, but it must answer, also about when the time wraps. */
    private static void manyCallsBeyondTheLimitThrowNothingElse() {
        LeaseDesk desk = new LeaseDesk();
        Calls calls = new Calls(-1);
        strayCalls(desk, calls);
        while (desk.time() >= 0 && desk.time() < Integer.MAX_VALUE - 100_000) {
            desk.tick(100);
        }
        strayCalls(desk, calls);
        Check.same("the time has wrapped", desk.time() < 0, true);
    }

    private static void strayCalls(LeaseDesk desk, Calls calls) {
        for (int i = 0; i < 100_000; i++) {
            int[] call = calls.next();
            String answer = Desk.make(desk, call);
            boolean isOfTheDocument = !answer.startsWith("java.")
                || answer.equals("java.util.NoSuchElementException")
                || answer.equals("java.lang.IllegalArgumentException")
                || answer.equals("java.lang.IllegalStateException");
            if (!isOfTheDocument) {
                Check.fail("call " + i + " threw " + answer + ": " + Desk.told(call));
                return;
            }
        }
    }
}

/**
 * LANGUAGE.md, rules 6 and 7: whatever the calls, nothing but the document's exceptions reaches the caller. After its
 * 512th call a desk may answer what it likes, but it must answer so, also about when the time wraps around.
 */
public final class StrayCallsTest {
    private static final int STRAY_CALLS = 100_000;

    public static void main(String[] args) {
        LeaseDesk desk = new LeaseDesk();
        strayCalls(desk, 1);
        int steps = Integer.MAX_VALUE / 100 - STRAY_CALLS / 20;
        for (int i = 0; i < steps; i++) {
            desk.tick(100);
        }
        for (int seed = 2; seed < 10; seed++) {
            strayCalls(desk, seed);
        }
        Check.end();
    }

    private static void strayCalls(LeaseDesk desk, int seed) {
        for (Call call : new Calls(seed).next(STRAY_CALLS)) {
            String answer = call.on(desk);
            boolean isOfTheDocument = !answer.startsWith("throws ")
                || answer.equals(Check.NO_ELEMENT)
                || answer.equals(Check.BAD_ARGUMENT)
                || answer.equals(Check.BAD_STATE);
            if (!isOfTheDocument) {
                Check.fail(call + " " + answer);
                return;
            }
        }
    }
}

import java.util.List;

/**
 * "A call that throws, or is refused (false, -1), changes nothing.", in long runs: of two desks with the same calls,
 * one has only those that were not refused, and answers each of them as the other did.
 */
public final class TwinTest {
    private static final int RUNS = 3000;
    private static final int CALLS_OF_AN_OBJECT = 512;

    public static void main(String[] args) {
        Check.sentence("A call that throws, or is refused (false, -1), changes nothing.");
        for (int seed = 0; seed < RUNS; seed++) {
            if (!twinsAgree(seed)) {
                break;
            }
        }
        Check.end();
    }

    private static boolean twinsAgree(int seed) {
        LeaseDesk full = new LeaseDesk();
        LeaseDesk spare = new LeaseDesk();
        List<Call> calls = new Calls(seed).next(CALLS_OF_AN_OBJECT - Questions.ALL.size());
        for (int i = 0; i < calls.size(); i++) {
            String answer = calls.get(i).on(full);
            String twins = Call.isRefusal(answer) ? answer : calls.get(i).on(spare);
            if (!twins.equals(answer)) {
                Check.same("run " + seed + ", call " + i + " on the twin: " + calls.get(i), twins, answer);
                return false;
            }
        }
        String due = Probe.QUESTIONS.show(full);
        String twins = Probe.QUESTIONS.show(spare);
        Check.same("the twin's answers after run " + seed, twins, due);
        return twins.equals(due);
    }
}

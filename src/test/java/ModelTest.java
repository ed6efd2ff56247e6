import java.util.List;

/** All promises: long runs of calls, each answer, and in the end every question, as the model has it. */
public final class ModelTest {
    private static final int RUNS = 6000;
    private static final int CALLS_OF_AN_OBJECT = 512;

    public static void main(String[] args) {
        for (int seed = 0; seed < RUNS; seed++) {
            if (!runAgrees(seed)) {
                break;
            }
        }
        Check.end();
    }

    private static boolean runAgrees(int seed) {
        LeaseDesk desk = new LeaseDesk();
        Model model = new Model();
        List<Call> calls = new Calls(seed).next(CALLS_OF_AN_OBJECT - Questions.ALL.size());
        calls.addAll(Questions.ALL);
        for (int i = 0; i < calls.size(); i++) {
            String got = calls.get(i).on(desk);
            String want = model.make(calls.get(i));
            if (!got.equals(want)) {
                Check.same("run " + seed + ", call " + i + ": " + calls.get(i), got, want);
                return false;
            }
        }
        return true;
    }
}

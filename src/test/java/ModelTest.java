/** All promises: long runs of calls, each answer and all that can be asked after it as the model has it. */
public final class ModelTest {
    private static final int RUNS = 1500;
    private static final int CALLS_OF_A_RUN = 300;

    public static void main(String[] args) {
        for (int seed = 0; seed < RUNS; seed++) {
            if (!runAgrees(seed)) {
                break;
            }
        }
        Check.end();
    }

    private static boolean runAgrees(int seed) {
        LeaseDesk desk = new LeaseDesk();
        Model model = new Model();
        Calls calls = new Calls(seed);
        for (int i = 0; i < CALLS_OF_A_RUN; i++) {
            int[] call = calls.next();
            String got = Desk.make(desk, call) + " then " + Check.view(desk);
            String want = model.make(call) + " then " + model.view();
            if (!got.equals(want)) {
                Check.same("run " + seed + ", call " + i + ": " + Desk.told(call), got, want);
                return false;
            }
        }
        return true;
    }
}

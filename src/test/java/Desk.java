/** The calls that can change a desk, by number, each with its answer as a text. */
final class Desk {
    static final int OPEN = 0;
    static final int CLOSE = 1;
    static final int KEEP = 2;
    static final int RATE = 3;
    static final int TICK = 4;
    static final int ACQUIRE = 5;
    static final int RELEASE = 6;
    static final int CANCEL = 7;
    static final int WRITE = 8;

    private static final String[] NAMES = {
        "open", "close", "keep", "rate", "tick", "acquire", "release", "cancel", "write",
    };

    private Desk() {
    }

    static String told(int[] call) {
        return NAMES[call[0]] + "(" + call[1] + ", " + call[2] + ", " + call[3] + ")";
    }

    static String make(LeaseDesk desk, int[] call) {
        String[] answer = {"void"};
        String thrown = Check.thrownBy(() -> answer[0] = answered(desk, call));
        return thrown.equals("nothing") ? answer[0] : thrown;
    }

    /** Whether an answer means that the call changed nothing. */
    static boolean isRefusal(String answer) {
        return answer.equals("false") || answer.equals("-1") || answer.startsWith("java.");
    }

    private static String answered(LeaseDesk desk, int[] call) {
        int a = call[1];
        int b = call[2];
        int c = call[3];
        switch (call[0]) {
            case OPEN:
                return String.valueOf(desk.open());
            case CLOSE:
                return String.valueOf(desk.close(a));
            case KEEP:
                desk.keep(a);
                return "void";
            case RATE:
                return String.valueOf(desk.rate(a, b));
            case TICK:
                return String.valueOf(desk.tick(a));
            case ACQUIRE:
                return String.valueOf(desk.acquire(a, b, c));
            case RELEASE:
                desk.release(a, b);
                return "void";
            case CANCEL:
                return String.valueOf(desk.cancel(a, b));
            default:
                return String.valueOf(desk.write(a, b, c));
        }
    }
}

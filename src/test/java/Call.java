import java.util.Arrays;

/** A call with its arguments, so that it can be told, and made on a desk as well as on the model. */
final class Call {
    final Kind kind;
    final int a;
    final int b;
    final int c;

    Call(Kind kind, int... arguments) {
        int[] padded = Arrays.copyOf(arguments, 3);
        this.kind = kind;
        a = padded[0];
        b = padded[1];
        c = padded[2];
    }

    /** Whether an answer means that the call changed nothing. */
    static boolean isRefusal(String answer) {
        return answer.equals("false") || answer.equals("-1") || answer.startsWith("throws ");
    }

    /** The answer, as a text. */
    String on(LeaseDesk desk) {
        String[] answer = {"void"};
        String thrown = Check.thrownBy(() -> answer[0] = answered(desk));
        return thrown.equals("throws nothing") ? answer[0] : thrown;
    }

    @Override
    public String toString() {
        int[] all = {a, b, c};
        String told = Arrays.toString(Arrays.copyOf(all, kind.arguments));
        return kind.word() + "(" + told.substring(1, told.length() - 1) + ")";
    }

    private String answered(LeaseDesk desk) {
        return switch (kind) {
            case OPEN -> String.valueOf(desk.open());
            case CLOSE -> String.valueOf(desk.close(a));
            case KEEP -> {
                desk.keep(a);
                yield "void";
            }
            case RATE -> String.valueOf(desk.rate(a, b));
            case TICK -> String.valueOf(desk.tick(a));
            case ACQUIRE -> String.valueOf(desk.acquire(a, b, c));
            case RELEASE -> {
                desk.release(a, b);
                yield "void";
            }
            case CANCEL -> String.valueOf(desk.cancel(a, b));
            case WRITE -> String.valueOf(desk.write(a, b, c));
            case HOLDER -> String.valueOf(desk.holder(a));
            case TOKEN -> String.valueOf(desk.token(a));
            case UNTIL -> String.valueOf(desk.until(a));
            case WAITER -> String.valueOf(desk.waiter(a, b));
            case TIME -> String.valueOf(desk.time());
            case CLOCK -> String.valueOf(desk.clock(a));
            case BELIEVES -> String.valueOf(desk.believes(a, b));
            case STORED -> String.valueOf(desk.stored(a));
            case SEEN -> String.valueOf(desk.seen(a));
        };
    }
}

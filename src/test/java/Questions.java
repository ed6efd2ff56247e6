import java.util.ArrayList;
import java.util.List;

/** Every question that can be asked of a desk, with arguments from just below the limits to just above them. */
final class Questions {
    static final List<Call> ALL = all();

    private Questions() {
    }

    private static List<Call> all() {
        List<Call> questions = new ArrayList<>();
        questions.add(new Call(Kind.TIME));
        for (int slot = -1; slot <= 6; slot++) {
            questions.add(new Call(Kind.CLOCK, slot));
        }
        for (int lock = -1; lock <= 4; lock++) {
            questions.add(new Call(Kind.HOLDER, lock));
            questions.add(new Call(Kind.TOKEN, lock));
            questions.add(new Call(Kind.UNTIL, lock));
            questions.add(new Call(Kind.STORED, lock));
            questions.add(new Call(Kind.SEEN, lock));
            for (int k = -1; k <= 6; k++) {
                questions.add(new Call(Kind.WAITER, lock, k));
            }
            for (int slot = -1; slot <= 6; slot++) {
                questions.add(new Call(Kind.BELIEVES, slot, lock));
            }
        }
        return questions;
    }
}

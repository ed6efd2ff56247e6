import java.util.ArrayList;
import java.util.List;
import java.util.Random;

/** Calls drawn from a seed, so that a run that fails can be had again. */
final class Calls {
    private static final int[] WILD = {Integer.MIN_VALUE, -2, -1, 0, 1, 4, 6, 7, 51, 101, 1000, Integer.MAX_VALUE};

    // acquire and tick come often, or the desk would mostly be empty; close comes seldom for the same reason.
    private static final Kind[] CHANGES = {
        Kind.OPEN, Kind.OPEN, Kind.OPEN, Kind.CLOSE, Kind.KEEP, Kind.KEEP, Kind.KEEP, Kind.RATE,
        Kind.TICK, Kind.TICK, Kind.TICK, Kind.ACQUIRE, Kind.ACQUIRE, Kind.ACQUIRE, Kind.ACQUIRE, Kind.ACQUIRE,
        Kind.RELEASE, Kind.RELEASE, Kind.CANCEL, Kind.WRITE,
    };

    private final Random random;

    Calls(long seed) {
        random = new Random(seed);
    }

    /** So many calls, about one in three of them a question. */
    List<Call> next(int count) {
        List<Call> calls = new ArrayList<>();
        for (int i = 0; i < count; i++) {
            calls.add(chance(3) ? Questions.ALL.get(random.nextInt(Questions.ALL.size())) : change());
        }
        return calls;
    }

    private Call change() {
        Kind kind = CHANGES[random.nextInt(CHANGES.length)];
        return new Call(kind, first(kind), second(kind), third(kind));
    }

    private int first(Kind kind) {
        return switch (kind) {
            case TICK -> wildOr(chance(8) ? random.nextInt(101) : random.nextInt(15));
            case WRITE -> wildOr(random.nextInt(4));
            default -> wildOr(random.nextInt(6));
        };
    }

    private int second(Kind kind) {
        return switch (kind) {
            case RATE -> wildOr(8 + random.nextInt(5));
            case WRITE -> wildOr(random.nextInt(12));
            default -> wildOr(random.nextInt(4));
        };
    }

    private int third(Kind kind) {
        if (kind == Kind.WRITE) {
            return random.nextInt();
        }
        return wildOr(chance(3) ? 1 + random.nextInt(100) : 1 + random.nextInt(20));
    }

    private int wildOr(int tame) {
        return chance(25) ? WILD[random.nextInt(WILD.length)] : tame;
    }

    private boolean chance(int oneOf) {
        return random.nextInt(oneOf) == 0;
    }
}

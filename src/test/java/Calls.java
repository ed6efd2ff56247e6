import java.util.Random;

/** Runs of calls drawn from a seed, so that a run that fails can be had again. */
final class Calls {
    private static final int[] WILD = {Integer.MIN_VALUE, -2, -1, 0, 1, 4, 6, 7, 51, 101, 1000, Integer.MAX_VALUE};

    // acquire and tick come often, or the desk would mostly be empty; close comes seldom for the same reason.
    private static final int[] KINDS = {
        Desk.OPEN, Desk.OPEN, Desk.OPEN, Desk.CLOSE, Desk.KEEP, Desk.KEEP, Desk.KEEP, Desk.RATE,
        Desk.TICK, Desk.TICK, Desk.TICK, Desk.ACQUIRE, Desk.ACQUIRE, Desk.ACQUIRE, Desk.ACQUIRE, Desk.ACQUIRE,
        Desk.RELEASE, Desk.RELEASE, Desk.CANCEL, Desk.WRITE,
    };

    private final Random random;

    Calls(long seed) {
        random = new Random(seed);
    }

    /** A call as {kind, a, b, c}: its kind's place in Desk.make, and its arguments. */
    int[] next() {
        int kind = KINDS[random.nextInt(KINDS.length)];
        return new int[] {kind, first(kind), second(kind), third(kind)};
    }

    boolean chance(int oneOf) {
        return random.nextInt(oneOf) == 0;
    }

    private int first(int kind) {
        switch (kind) {
            case Desk.TICK:
                return wildOr(chance(8) ? random.nextInt(101) : random.nextInt(15));
            case Desk.WRITE:
                return wildOr(random.nextInt(4));
            default:
                return wildOr(random.nextInt(6));
        }
    }

    private int second(int kind) {
        switch (kind) {
            case Desk.RATE:
                return wildOr(8 + random.nextInt(5));
            case Desk.WRITE:
                return wildOr(random.nextInt(12));
            default:
                return wildOr(random.nextInt(4));
        }
    }

    private int third(int kind) {
        if (kind == Desk.WRITE) {
            return random.nextInt();
        }
        return wildOr(chance(3) ? 1 + random.nextInt(100) : 1 + random.nextInt(20));
    }

    private int wildOr(int tame) {
        return chance(25) ? WILD[random.nextInt(WILD.length)] : tame;
    }
}

import java.util.NoSuchElementException;

/** What the tests share: they compare answers, print each wrong one, and end with exit code 1 if there was one. */
final class Check {
    /** A call that may throw. */
    interface Call {
        void make();
    }

    private static int wrong = 0;

    private Check() {
    }

    static void same(String call, long got, long want) {
        if (got != want) {
            fail(call + " answered " + got + ", due is " + want);
        }
    }

    static void same(String call, boolean got, boolean want) {
        if (got != want) {
            fail(call + " answered " + got + ", due is " + want);
        }
    }

    static void same(String call, String got, String want) {
        if (!got.equals(want)) {
            fail(call + " answered\n  " + got + "\ndue is\n  " + want);
        }
    }

    static void noElement(String call, Call made) {
        same(call + " throws", thrownBy(made), NoSuchElementException.class.getName());
    }

    static void badArgument(String call, Call made) {
        same(call + " throws", thrownBy(made), IllegalArgumentException.class.getName());
    }

    static void badState(String call, Call made) {
        same(call + " throws", thrownBy(made), IllegalStateException.class.getName());
    }

    /** The exact class's name, because a subclass would not be what the document names. */
    static String thrownBy(Call made) {
        try {
            made.make();
        } catch (Throwable thrown) {
            return thrown.getClass().getName();
        }
        return "nothing";
    }

    /** A desk with this many sessions open, in slots 0, 1, .. */
    static LeaseDesk deskWith(int sessions) {
        LeaseDesk desk = new LeaseDesk();
        for (int slot = 0; slot < sessions; slot++) {
            same("open()", desk.open(), slot);
        }
        return desk;
    }

    /** The time goes on by d, and none of the open sessions falls silent in it. */
    static void tickKeeping(LeaseDesk desk, int d) {
        for (int slot = 0; slot < 6; slot++) {
            if (desk.clock(slot) != -1) {
                desk.keep(slot);
            }
        }
        desk.tick(d);
    }

    /** All that can be asked of a desk without changing it. */
    static String view(LeaseDesk desk) {
        StringBuilder text = new StringBuilder("time ").append(desk.time());
        for (int slot = -1; slot <= 6; slot++) {
            text.append(" | clock ").append(slot).append(' ').append(desk.clock(slot));
        }
        for (int lock = -1; lock <= 4; lock++) {
            text.append(" | lock ").append(lock).append(" holder ").append(desk.holder(lock));
            text.append(" token ").append(desk.token(lock)).append(" until ").append(desk.until(lock));
            text.append(" row");
            for (int k = -1; k <= 6; k++) {
                text.append(' ').append(desk.waiter(lock, k));
            }
            text.append(" believes");
            for (int slot = -1; slot <= 6; slot++) {
                text.append(' ').append(desk.believes(slot, lock));
            }
            text.append(" stored ").append(desk.stored(lock)).append(" seen ").append(desk.seen(lock));
        }
        return text.toString();
    }

    static void fail(String what) {
        wrong++;
        System.out.println(what);
    }

    static void end() {
        if (wrong != 0) {
            System.out.println(wrong + " answers are not as due");
            System.exit(1);
        }
    }
}

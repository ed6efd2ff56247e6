/**
 * "Nothing is promised beyond the answers and state changes described above": calls that are taken leave the rest as it
 * was.
 */
public final class NothingElseTest {
    public static void main(String[] args) {
        Check.sentence("Nothing is promised beyond the answers and state changes described above");
        tickByNothing();
        keepAtTheSign();
        rateAsItIs();
        writeAsItWas();
        renewalInVain();
        requestAsItIs();
        openAndClose();
        askAndCancel();
        keepMovesTheSignAlone();
        rateMovesTheRateAlone();
        writeMovesTheStoreAlone();
        Check.end();
    }

    /** A scene that goes on with a sign of this session, so that a call that is a sign too moves nothing by that. */
    private static Probe.Scene kept(Probe.Scene scene, int slot) {
        return () -> {
            LeaseDesk desk = scene.make();
            desk.keep(slot);
            return desk;
        };
    }

    private static Probe.Scene then(Probe.Scene scene, Call... calls) {
        return () -> {
            LeaseDesk desk = scene.make();
            for (Call call : calls) {
                String answer = call.on(desk);
                Check.same(call + " is taken", Call.isRefusal(answer), false);
            }
            return desk;
        };
    }

    private static void sameBy(Probe probe, String told, Probe.Scene one, Probe.Scene other) {
        Check.same(probe + " " + told, probe.show(one.make()), probe.show(other.make()));
    }

    private static void sameByAll(String told, Probe.Scene one, Probe.Scene other) {
        for (Probe probe : Probe.values()) {
            sameBy(probe, told, one, other);
        }
    }

    private static void tickByNothing() {
        Call call = new Call(Kind.TICK, 0);
        Probe.changesNothing("a new desk", Scenes::fresh, call, "0");
        Probe.changesNothing("a busy desk", Scenes::busy, call, "0");
        Probe.changesNothing("a full desk", Scenes::full, call, "0");
    }

    private static void keepAtTheSign() {
        for (int slot = 0; slot < 6; slot++) {
            Call call = new Call(Kind.KEEP, slot);
            Probe.changesNothing("a full desk, just kept", kept(Scenes::full, slot), call, "void");
        }
    }

    private static void rateAsItIs() {
        for (int slot = 0; slot < 6; slot++) {
            Call call = new Call(Kind.RATE, slot, slot % 2 == 0 ? 9 : 11);
            Probe.changesNothing("a full desk", Scenes::full, call, "true");
        }
        Probe.changesNothing("a busy desk", Scenes::busy, new Call(Kind.RATE, 0, 10), "true");
    }

    private static void writeAsItWas() {
        Probe.changesNothing("a busy desk", Scenes::busy, new Call(Kind.WRITE, 0, 1, 70), "true");
        Probe.changesNothing("a busy desk", Scenes::busy, new Call(Kind.WRITE, 1, 3, -5), "true");
    }

    private static void renewalInVain() {
        int[] terms = {1, 10, 11};
        for (int term : terms) {
            Call call = new Call(Kind.ACQUIRE, 0, 0, term);
            Probe.changesNothing("a busy desk, just kept", kept(Scenes::busy, 0), call, "1");
        }
    }

    private static void requestAsItIs() {
        Probe.changesNothing("a busy desk, just kept", kept(Scenes::busy, 1), new Call(Kind.ACQUIRE, 1, 0, 12), "0");
        Probe.changesNothing("a busy desk, just kept", kept(Scenes::busy, 2), new Call(Kind.ACQUIRE, 2, 0, 9), "0");
        Probe.changesNothing("a busy desk, just kept", kept(Scenes::busy, 3), new Call(Kind.ACQUIRE, 3, 0, 30), "0");
    }

    private static void openAndClose() {
        Call[] calls = {new Call(Kind.OPEN), new Call(Kind.RATE, 4, 11), new Call(Kind.CLOSE, 4)};
        sameByAll("after a session came and went", then(Scenes::busy, calls), Scenes::busy);
    }

    private static void askAndCancel() {
        Call[] calls = {new Call(Kind.ACQUIRE, 3, 1, 50), new Call(Kind.CANCEL, 3, 1)};
        Probe.Scene scene = kept(Scenes::busy, 3);
        sameByAll("after a request came and went", then(scene, calls), scene);
    }

    private static void keepMovesTheSignAlone() {
        for (int slot = 0; slot < 6; slot++) {
            Probe.Scene scene = kept(Scenes::full, slot);
            sameBy(Probe.QUESTIONS, "after keep(" + slot + ")", scene, Scenes::full);
            sameBy(Probe.TERMS_IN_ROWS, "after keep(" + slot + ")", scene, Scenes::full);
            sameBy(Probe.STARTS, "after keep(" + slot + ")", scene, Scenes::full);
            sameBy(Probe.SLOTS_AND_TOKENS_TO_COME, "after keep(" + slot + ")", scene, Scenes::full);
            // How the clocks go on tells the rates; none of the sessions falls silent in so short a time.
            Call on = new Call(Kind.TICK, 10);
            sameBy(Probe.QUESTIONS, "after keep(" + slot + ") and " + on, then(scene, on), then(Scenes::full, on));
        }
    }

    private static void rateMovesTheRateAlone() {
        for (int slot = 0; slot < 6; slot++) {
            Probe.Scene scene = then(Scenes::full, new Call(Kind.RATE, slot, 10));
            sameBy(Probe.QUESTIONS, "after rate(" + slot + ", 10)", scene, Scenes::full);
            sameBy(Probe.TERMS_IN_ROWS, "after rate(" + slot + ", 10)", scene, Scenes::full);
            sameBy(Probe.SLOTS_AND_TOKENS_TO_COME, "after rate(" + slot + ", 10)", scene, Scenes::full);
        }
    }

    private static void writeMovesTheStoreAlone() {
        for (int lock = 0; lock < 4; lock++) {
            String told = "after write(" + lock + ", 9, 5)";
            Probe.Scene scene = then(Scenes::full, new Call(Kind.WRITE, lock, 9, 5));
            sameBy(Probe.SIGNS_AND_RATES, told, scene, Scenes::full);
            sameBy(Probe.TERMS_IN_ROWS, told, scene, Scenes::full);
            sameBy(Probe.STARTS, told, scene, Scenes::full);
            sameBy(Probe.SLOTS_AND_TOKENS_TO_COME, told, scene, Scenes::full);
            for (Call question : Questions.ALL) {
                boolean isMoved = question.a == lock && (question.kind == Kind.STORED || question.kind == Kind.SEEN);
                String due = isMoved ? String.valueOf(question.kind == Kind.SEEN ? 9 : 5) : question.on(Scenes.full());
                Check.same(question + " " + told, question.on(scene.make()), due);
            }
        }
    }
}

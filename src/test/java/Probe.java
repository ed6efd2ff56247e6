/**
 * Ways to show the whole state of a desk. No question tells a sign, a rate, a start or the term of a request, so most
 * go by what the desk answers later, and use it up in that. Each stays below 380 calls, to leave some of a desk's 512.
 */
enum Probe {
    QUESTIONS {
        @Override
        String show(LeaseDesk desk) {
            StringBuilder shown = new StringBuilder();
            for (Call question : Questions.ALL) {
                shown.append(question).append(' ').append(question.on(desk)).append("; ");
            }
            return shown.toString();
        }
    },

    /** When each session ends of silence tells its sign; how its clock goes on until then, its rate. */
    SIGNS_AND_RATES {
        @Override
        String show(LeaseDesk desk) {
            StringBuilder shown = new StringBuilder();
            for (int step = 1; step <= 51; step++) {
                shown.append("tick(1) no. ").append(step).append(' ').append(desk.tick(1)).append(", clocks");
                for (int slot = 0; slot < 6; slot++) {
                    shown.append(' ').append(desk.clock(slot));
                }
                shown.append("; ");
            }
            return shown.toString();
        }
    },

    /** The end of each lease that a release grants tells the term that waited in the row. */
    TERMS_IN_ROWS {
        @Override
        String show(LeaseDesk desk) {
            StringBuilder shown = new StringBuilder();
            for (int lock = 0; lock < 4; lock++) {
                shown.append("lock ").append(lock).append(':');
                for (int lease = 0; lease < 7 && desk.holder(lock) != -1; lease++) {
                    shown.append(' ').append(desk.holder(lock)).append(" until ").append(desk.until(lock));
                    desk.release(desk.holder(lock), lock);
                }
                shown.append("; ");
            }
            return shown.toString();
        }
    },

    /** How long each holder believes tells the start and the term of its lease. */
    STARTS {
        @Override
        String show(LeaseDesk desk) {
            StringBuilder shown = new StringBuilder();
            boolean[] isOpen = new boolean[6];
            for (int slot = 0; slot < 6; slot++) {
                isOpen[slot] = desk.clock(slot) != -1;
            }
            for (int step = 1; step <= 24; step++) {
                for (int slot = 0; slot < 6; slot++) {
                    if (isOpen[slot]) {
                        desk.keep(slot);
                    }
                }
                shown.append("tick(1) no. ").append(step).append(' ').append(desk.tick(1)).append(", believe");
                for (int lock = 0; lock < 4; lock++) {
                    int holder = desk.holder(lock);
                    shown.append(' ').append(holder).append(' ').append(desk.believes(holder, lock));
                }
                shown.append("; ");
            }
            return shown.toString();
        }
    },

    SLOTS_AND_TOKENS_TO_COME {
        @Override
        String show(LeaseDesk desk) {
            StringBuilder shown = new StringBuilder("slots");
            for (int i = 0; i < 7; i++) {
                shown.append(' ').append(new Call(Kind.OPEN).on(desk));
            }
            for (int lock = 0; lock < 4; lock++) {
                for (int slot = 0; slot < 6; slot++) {
                    shown.append("; ").append(new Call(Kind.ACQUIRE, slot, lock, 1).on(desk));
                }
            }
            return shown.toString();
        }
    };

    /** Makes the same state as often as it is asked for, in at most some 60 calls. */
    interface Scene {
        LeaseDesk make();
    }

    abstract String show(LeaseDesk desk);

    /** The call has this answer, and a desk that has had it cannot be told from one that has not. */
    static void changesNothing(String scene, Scene maker, Call call, String due) {
        for (Probe probe : values()) {
            LeaseDesk untouched = maker.make();
            LeaseDesk called = maker.make();
            String told = call + " on " + scene;
            Check.same(told, call.on(called), due);
            Check.same(probe + " after " + told, probe.show(called), probe.show(untouched));
        }
    }
}

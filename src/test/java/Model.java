import java.util.ArrayList;
import java.util.List;
import java.util.TreeMap;

/** The document told a second time, as plainly as the Java library allows, to be compared with LeaseDesk. */
final class Model {
    private static final String NO_ELEMENT = "java.util.NoSuchElementException";
    private static final String BAD_ARGUMENT = "java.lang.IllegalArgumentException";
    private static final String BAD_STATE = "java.lang.IllegalStateException";

    private record Request(int slot, int term) {
    }

    private record Lease(int slot, int ends, int term, int start) {
    }

    private static final class Client {
        private int sign;
        private int rate = 10;
        private int clock = 0;
    }

    private final TreeMap<Integer, Client> open = new TreeMap<>();
    private final TreeMap<Integer, Lease> lent = new TreeMap<>();
    private final List<List<Request>> rows = new ArrayList<>();
    private final int[] tokens = new int[4];
    private final int[] seen = new int[4];
    private final int[] values = new int[4];
    private int time = 0;

    Model() {
        for (int lock = 0; lock < 4; lock++) {
            rows.add(new ArrayList<>());
        }
    }

    String make(int[] call) {
        int a = call[1];
        int b = call[2];
        int c = call[3];
        switch (call[0]) {
            case Desk.OPEN:
                return open();
            case Desk.CLOSE:
                return open.containsKey(a) ? String.valueOf(end(a)) : NO_ELEMENT;
            case Desk.KEEP:
                return keep(a);
            case Desk.RATE:
                return String.valueOf(rate(a, b));
            case Desk.TICK:
                return String.valueOf(tick(a));
            case Desk.ACQUIRE:
                return acquire(a, b, c);
            case Desk.RELEASE:
                return release(a, b);
            case Desk.CANCEL:
                return String.valueOf(isLock(b) && rows.get(b).removeIf(request -> request.slot() == a));
            default:
                return String.valueOf(write(a, b, c));
        }
    }

    private static boolean isLock(int lock) {
        return lock >= 0 && lock <= 3;
    }

    private boolean holds(int slot, int lock) {
        return lent.containsKey(lock) && lent.get(lock).slot() == slot;
    }

    private String open() {
        for (int slot = 0; slot <= 5; slot++) {
            if (!open.containsKey(slot)) {
                Client client = new Client();
                client.sign = time;
                open.put(slot, client);
                return String.valueOf(slot);
            }
        }
        return BAD_STATE;
    }

    private String keep(int slot) {
        if (!open.containsKey(slot)) {
            return NO_ELEMENT;
        }
        open.get(slot).sign = time;
        return "void";
    }

    private boolean rate(int slot, int r) {
        if (!open.containsKey(slot) || (r != 9 && r != 10 && r != 11)) {
            return false;
        }
        open.get(slot).rate = r;
        return true;
    }

    private int tick(int d) {
        if (d < 0 || d > 100) {
            return -1;
        }
        time += d;
        int count = 0;
        for (Client client : open.values()) {
            client.clock += client.rate * d;
        }
        for (int slot : new ArrayList<>(open.keySet())) {
            if (open.get(slot).sign < time - 50) {
                count += end(slot);
            }
        }
        for (int lock : new ArrayList<>(lent.keySet())) {
            if (lent.get(lock).ends() <= time) {
                passOn(lock);
                count++;
            }
        }
        return count;
    }

    private String acquire(int slot, int lock, int term) {
        if (!open.containsKey(slot)) {
            return NO_ELEMENT;
        }
        if (!isLock(lock) || term < 1 || term > 100) {
            return BAD_ARGUMENT;
        }
        Client client = open.get(slot);
        client.sign = time;
        if (holds(slot, lock)) {
            if (time + term > lent.get(lock).ends()) {
                lent.put(lock, new Lease(slot, time + term, term, client.clock));
            }
            return String.valueOf(tokens[lock]);
        }
        if (!lent.containsKey(lock)) {
            grant(lock, new Request(slot, term));
            return String.valueOf(tokens[lock]);
        }
        List<Request> row = rows.get(lock);
        for (Request request : row) {
            if (request.slot() == slot) {
                row.set(row.indexOf(request), new Request(slot, term));
                return "0";
            }
        }
        row.add(new Request(slot, term));
        return "0";
    }

    private String release(int slot, int lock) {
        if (!open.containsKey(slot)) {
            return NO_ELEMENT;
        }
        if (!isLock(lock)) {
            return BAD_ARGUMENT;
        }
        if (!holds(slot, lock)) {
            return BAD_STATE;
        }
        passOn(lock);
        return "void";
    }

    private boolean write(int lock, int token, int v) {
        if (!isLock(lock) || token < 1 || token < seen[lock]) {
            return false;
        }
        seen[lock] = token;
        values[lock] = v;
        return true;
    }

    private void grant(int lock, Request request) {
        tokens[lock]++;
        int clock = open.get(request.slot()).clock;
        lent.put(lock, new Lease(request.slot(), time + request.term(), request.term(), clock));
    }

    private void passOn(int lock) {
        lent.remove(lock);
        if (!rows.get(lock).isEmpty()) {
            grant(lock, rows.get(lock).remove(0));
        }
    }

    private int end(int slot) {
        for (List<Request> row : rows) {
            row.removeIf(request -> request.slot() == slot);
        }
        int held = 0;
        for (int lock = 0; lock <= 3; lock++) {
            if (holds(slot, lock)) {
                passOn(lock);
                held++;
            }
        }
        open.remove(slot);
        return held;
    }

    /** In the form of Check.view. */
    String view() {
        StringBuilder text = new StringBuilder("time ").append(time);
        for (int slot = -1; slot <= 6; slot++) {
            int clock = open.containsKey(slot) ? open.get(slot).clock : -1;
            text.append(" | clock ").append(slot).append(' ').append(clock);
        }
        for (int lock = -1; lock <= 4; lock++) {
            boolean isLent = lent.containsKey(lock);
            text.append(" | lock ").append(lock).append(" holder ").append(isLent ? lent.get(lock).slot() : -1);
            text.append(" token ").append(isLock(lock) ? tokens[lock] : -1);
            text.append(" until ").append(isLent ? lent.get(lock).ends() : -1);
            text.append(" row");
            for (int k = -1; k <= 6; k++) {
                boolean waits = isLock(lock) && k >= 0 && k < rows.get(lock).size();
                text.append(' ').append(waits ? rows.get(lock).get(k).slot() : -1);
            }
            text.append(" believes");
            for (int slot = -1; slot <= 6; slot++) {
                text.append(' ').append(believes(slot, lock));
            }
            text.append(" stored ").append(isLock(lock) ? values[lock] : 0);
            text.append(" seen ").append(isLock(lock) ? seen[lock] : -1);
        }
        return text.toString();
    }

    private boolean believes(int slot, int lock) {
        if (!holds(slot, lock)) {
            return false;
        }
        Lease lease = lent.get(lock);
        return open.get(slot).clock < lease.start() + 9 * lease.term();
    }
}

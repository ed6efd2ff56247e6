import java.util.ArrayList;
import java.util.List;
import java.util.TreeMap;

/** The document told a second time, as plainly as the Java library allows, to be compared with LeaseDesk. */
final class Model {
    private record Request(int slot, int term) {
    }

    private record Lease(int slot, int ends, int term, int start) {
    }

    private static final class Client {
        private int sign;
        private int rate = 10;
        private int clock = 0;
    }

    private final TreeMap<Integer, Client> open = new TreeMap<>();
    private final TreeMap<Integer, Lease> lent = new TreeMap<>();
    private final List<List<Request>> rows = new ArrayList<>();
    private final int[] tokens = new int[4];
    private final int[] seen = new int[4];
    private final int[] values = new int[4];
    private int time = 0;

    Model() {
        for (int lock = 0; lock < 4; lock++) {
            rows.add(new ArrayList<>());
        }
    }

    String make(Call call) {
        int a = call.a;
        int b = call.b;
        int c = call.c;
        return switch (call.kind) {
            case OPEN -> open();
            case CLOSE -> open.containsKey(a) ? String.valueOf(end(a)) : Check.NO_ELEMENT;
            case KEEP -> keep(a);
            case RATE -> String.valueOf(rate(a, b));
            case TICK -> String.valueOf(tick(a));
            case ACQUIRE -> acquire(a, b, c);
            case RELEASE -> release(a, b);
            case CANCEL -> String.valueOf(isLock(b) && rows.get(b).removeIf(request -> request.slot() == a));
            case WRITE -> String.valueOf(write(a, b, c));
            case HOLDER -> String.valueOf(lent.containsKey(a) ? lent.get(a).slot() : -1);
            case TOKEN -> String.valueOf(isLock(a) ? tokens[a] : -1);
            case UNTIL -> String.valueOf(lent.containsKey(a) ? lent.get(a).ends() : -1);
            case WAITER -> String.valueOf(waits(a, b) ? rows.get(a).get(b).slot() : -1);
            case TIME -> String.valueOf(time);
            case CLOCK -> String.valueOf(open.containsKey(a) ? open.get(a).clock : -1);
            case BELIEVES -> String.valueOf(believes(a, b));
            case STORED -> String.valueOf(isLock(a) ? values[a] : 0);
            case SEEN -> String.valueOf(isLock(a) ? seen[a] : -1);
        };
    }

    private static boolean isLock(int lock) {
        return lock >= 0 && lock <= 3;
    }

    private boolean holds(int slot, int lock) {
        return lent.containsKey(lock) && lent.get(lock).slot() == slot;
    }

    private String open() {
        for (int slot = 0; slot <= 5; slot++) {
            if (!open.containsKey(slot)) {
                Client client = new Client();
                client.sign = time;
                open.put(slot, client);
                return String.valueOf(slot);
            }
        }
        return Check.BAD_STATE;
    }

    private String keep(int slot) {
        if (!open.containsKey(slot)) {
            return Check.NO_ELEMENT;
        }
        open.get(slot).sign = time;
        return "void";
    }

    private boolean rate(int slot, int r) {
        if (!open.containsKey(slot) || (r != 9 && r != 10 && r != 11)) {
            return false;
        }
        open.get(slot).rate = r;
        return true;
    }

    private int tick(int d) {
        if (d < 0 || d > 100) {
            return -1;
        }
        time += d;
        int count = 0;
        for (Client client : open.values()) {
            client.clock += client.rate * d;
        }
        for (int slot : new ArrayList<>(open.keySet())) {
            if (open.get(slot).sign < time - 50) {
                count += end(slot);
            }
        }
        for (int lock : new ArrayList<>(lent.keySet())) {
            if (lent.get(lock).ends() <= time) {
                passOn(lock);
                count++;
            }
        }
        return count;
    }

    private String acquire(int slot, int lock, int term) {
        if (!open.containsKey(slot)) {
            return Check.NO_ELEMENT;
        }
        if (!isLock(lock) || term < 1 || term > 100) {
            return Check.BAD_ARGUMENT;
        }
        Client client = open.get(slot);
        client.sign = time;
        if (holds(slot, lock)) {
            if (time + term > lent.get(lock).ends()) {
                lent.put(lock, new Lease(slot, time + term, term, client.clock));
            }
            return String.valueOf(tokens[lock]);
        }
        if (!lent.containsKey(lock)) {
            grant(lock, new Request(slot, term));
            return String.valueOf(tokens[lock]);
        }
        List<Request> row = rows.get(lock);
        for (Request request : row) {
            if (request.slot() == slot) {
                row.set(row.indexOf(request), new Request(slot, term));
                return "0";
            }
        }
        row.add(new Request(slot, term));
        return "0";
    }

    private String release(int slot, int lock) {
        if (!open.containsKey(slot)) {
            return Check.NO_ELEMENT;
        }
        if (!isLock(lock)) {
            return Check.BAD_ARGUMENT;
        }
        if (!holds(slot, lock)) {
            return Check.BAD_STATE;
        }
        passOn(lock);
        return "void";
    }

    private boolean write(int lock, int token, int v) {
        if (!isLock(lock) || token < 1 || token < seen[lock]) {
            return false;
        }
        seen[lock] = token;
        values[lock] = v;
        return true;
    }

    private void grant(int lock, Request request) {
        tokens[lock]++;
        int clock = open.get(request.slot()).clock;
        lent.put(lock, new Lease(request.slot(), time + request.term(), request.term(), clock));
    }

    private void passOn(int lock) {
        lent.remove(lock);
        if (!rows.get(lock).isEmpty()) {
            grant(lock, rows.get(lock).remove(0));
        }
    }

    private int end(int slot) {
        for (List<Request> row : rows) {
            row.removeIf(request -> request.slot() == slot);
        }
        int held = 0;
        for (int lock = 0; lock <= 3; lock++) {
            if (holds(slot, lock)) {
                passOn(lock);
                held++;
            }
        }
        open.remove(slot);
        return held;
    }

    private boolean waits(int lock, int k) {
        return isLock(lock) && k >= 0 && k < rows.get(lock).size();
    }

    private boolean believes(int slot, int lock) {
        if (!holds(slot, lock)) {
            return false;
        }
        Lease lease = lent.get(lock);
        return open.get(slot).clock < lease.start() + 9 * lease.term();
    }
}

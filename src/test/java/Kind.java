import java.util.Locale;

/** The methods of the document's face. */
enum Kind {
    OPEN(0), CLOSE(1), KEEP(1), RATE(2), TICK(1), ACQUIRE(3), RELEASE(2), CANCEL(2), WRITE(3),
    HOLDER(1), TOKEN(1), UNTIL(1), WAITER(2), TIME(0), CLOCK(1), BELIEVES(2), STORED(1), SEEN(1);

    final int arguments;

    Kind(int arguments) {
        this.arguments = arguments;
    }

    String word() {
        return name().toLowerCase(Locale.ROOT);
    }
}

import java.util.NoSuchElementException;

/**
 * Asks the same thing in each way that the document has for it. A request is a row of numbers:
 * from x and y, to x and y, and the riders.
 */
final class Asking {
    private final Check check;

    Asking(Check check) {
        this.check = check;
    }

    static int ask(ShuttleRow row, int... r) {
        return row.request(r[0], r[1], r[2], r[3], r[4]);
    }

    /** All three quotes tell the plan, and the request then gets it; the tour is the one that it leaves. */
    void planned(String what, ShuttleRow row, int[] r, int adds, int bus, String tour) {
        check.same("6: " + what, Check.answer(() -> row.quote(r[0], r[1], r[2], r[3], r[4])), "" + adds);
        check.same("7: " + what, Check.answer(() -> row.quoteByTrying(r[0], r[1], r[2], r[3], r[4])), "" + adds);
        check.same("8: " + what, Check.answer(() -> row.quotedBus(r[0], r[1], r[2], r[3], r[4])), "" + bus);
        int number = ask(row, r);
        check.same("12: " + what, Check.answer(() -> row.busOf(number)), "" + bus);
        check.same("5: " + what, Check.tour(row, bus), tour);
    }

    /** All three quotes throw, and the request then is refused. */
    void refused(String what, ShuttleRow row, int[] r, char reason) {
        Class<NoSuchElementException> due = NoSuchElementException.class;
        check.throwing("6: " + what, due, () -> row.quote(r[0], r[1], r[2], r[3], r[4]));
        check.throwing("7: " + what, due, () -> row.quoteByTrying(r[0], r[1], r[2], r[3], r[4]));
        check.throwing("8: " + what, due, () -> row.quotedBus(r[0], r[1], r[2], r[3], r[4]));
        int number = ask(row, r);
        check.same("10: " + what, row.status(number), 'x');
        check.same("11: " + what, Check.answer(() -> row.reason(number)), "" + reason);
    }

    /** Both ways tell the best length, and improve then gives the best order; the tour is the one that it leaves. */
    void best(String what, ShuttleRow row, int bus, int length, String tour) {
        int before = row.length(bus);
        check.same("23: " + what, row.bestLength(bus), length);
        check.same("24: " + what, row.bestLengthByTrying(bus), length);
        check.same("25: " + what, row.improve(bus), before - length);
        check.same("25: " + what + ", the tour", Check.tour(row, bus), tour);
        check.same("22: " + what + ", its length", row.length(bus), length);
    }
}

import java.util.NoSuchElementException;

/** Promises 36 to 41: the journal and the worst ride. */
public final class JournalTest {
    private static final Check check = new Check("JournalTest");

    public static void main(String[] args) {
        entriesInTheirOrder();
        noSuchEntry();
        sixtyEntries();
        worstOfAllRides();
        onlyDroppedOnesCount();
        check.end();
    }

    private static void due(ShuttleRow row, int entry, int bus, int request, int time, int distance) {
        check.same("37: entry " + entry, row.entryBus(entry), bus);
        check.same("38: entry " + entry, row.entryRequest(entry), request);
        check.same("39: entry " + entry, row.entryTime(entry), time);
        check.same("40: entry " + entry, row.entryDistance(entry), distance);
    }

    private static void entriesInTheirOrder() {
        ShuttleRow row = new ShuttleRow();
        row.addBus(3, 80, 0, 0);
        row.addBus(3, 80, 0, 10);
        row.pass(5);
        row.request(2, 10, 4, 10, 1);
        row.request(2, 0, 5, 0, 2);
        check.same("36: none yet", row.entries(), 0);
        row.pass(2);
        check.same("36: two pickups in a minute", row.entries(), 2);
        due(row, 0, 0, 1, 7, 2);
        due(row, 1, 1, 0, 7, 2);
        row.pass(20);
        check.same("36: and two drops", row.entries(), 4);
        due(row, 2, 1, 0, 9, 4);
        due(row, 3, 0, 1, 10, 5);
        row.request(0, 0, 0, 1, 1);
        check.same("36: a stop that a call made", row.entries(), 5);
        due(row, 4, 0, 2, 27, 10);
        due(row, 0, 0, 1, 7, 2);
    }

    private static void noSuchEntry() {
        ShuttleRow row = new ShuttleRow();
        row.addBus(3, 80, 0, 0);
        row.request(0, 0, 0, 5, 1);
        check.same("36: one", row.entries(), 1);
        for (int entry : new int[] {-1, 1, 59, 60, Integer.MIN_VALUE, Integer.MAX_VALUE}) {
            Class<IndexOutOfBoundsException> due = IndexOutOfBoundsException.class;
            check.throwing("37: " + entry, due, () -> row.entryBus(entry));
            check.throwing("38: " + entry, due, () -> row.entryRequest(entry));
            check.throwing("39: " + entry, due, () -> row.entryTime(entry));
            check.throwing("40: " + entry, due, () -> row.entryDistance(entry));
        }
    }

    private static void sixtyEntries() {
        ShuttleRow row = new ShuttleRow();
        row.addBus(1, 200, 0, 0);
        for (int r = 0; r < 30; r++) {
            row.request(r % 2, 0, 1 - r % 2, 0, 1);
            row.pass(1);
        }
        check.same("36: all of thirty requests", row.entries(), 60);
        due(row, 59, 0, 29, 30, 30);
        due(row, 58, 0, 29, 29, 29);
        check.same("33: never empty", row.empty(0), 0);
        check.same("34: never empty", row.emptyByJournal(0), 0);
        check.same("41: always direct", row.worstRide(), 0);
    }

    private static void worstOfAllRides() {
        ShuttleRow row = new ShuttleRow();
        row.addBus(3, 200, 0, 0);
        row.request(0, 0, 10, 0, 1);
        row.request(4, 1, 6, 1, 1);
        check.same("5: a detour of 2", Check.tour(row, 0), "p1 d1 d0");
        row.pass(7);
        check.same("41: the direct one was dropped", row.worstRide(), 0);
        row.pass(4);
        check.same("41: the other one not yet", row.worstRide(), 0);
        row.pass(1);
        check.same("41: 12 instead of 10", row.worstRide(), 2);
        row.request(10, 0, 9, 0, 1);
        row.pass(1);
        check.same("41: stays the greatest", row.worstRide(), 2);
    }

    private static void onlyDroppedOnesCount() {
        ShuttleRow row = new ShuttleRow();
        check.throwing("41: no request", NoSuchElementException.class, () -> row.worstRide());
        row.request(0, 0, 10, 0, 1);
        row.addBus(3, 200, 0, 0);
        row.request(1, 0, 2, 0, 1);
        row.cancel(1);
        row.request(0, 0, 2, 0, 1);
        check.throwing("41: on board", NoSuchElementException.class, () -> row.worstRide());
        row.pass(1);
        check.throwing("41: still on board", NoSuchElementException.class, () -> row.worstRide());
        row.pass(1);
        check.same("41: dropped", row.worstRide(), 0);
    }
}

import java.util.NoSuchElementException;

/** Promises 26 to 35: pass, now, and what is told of a bus. */
public final class DrivingTest {
    private static final Check check = new Check("DrivingTest");

    public static void main(String[] args) {
        wrongMinutes();
        alongXThenY();
        charging();
        alongBothWays();
        severalStopsInAMinute();
        newRequestOnTheWayBack();
        requestTakesABusFromCharging();
        meanRiders();
        emptyInBothWays();
        cancelledOnTheWay();
        noSuchBus();
        check.end();
    }

    private static void wrongMinutes() {
        ShuttleRow row = new ShuttleRow();
        row.addBus(2, 60, 5, 5);
        row.request(3, 7, 3, 8, 1);
        for (int minutes : new int[] {0, 61, -1, Integer.MIN_VALUE, Integer.MAX_VALUE}) {
            check.throwing("26: " + minutes, IllegalArgumentException.class, () -> row.pass(minutes));
        }
        check.same("27: nothing changed", row.now(), 0);
        check.same("28: nothing changed", row.x(0), 5);
        check.same("26: the least", row.pass(1), 0);
        check.same("27: a minute", row.now(), 1);
        check.same("26: the most", row.pass(60), 2);
        check.same("27: an hour more", row.now(), 61);
        ShuttleRow none = new ShuttleRow();
        check.same("26: without a bus", none.pass(60), 0);
        check.same("27: without a bus", none.now(), 60);
    }

    private static void where(String what, ShuttleRow row, int bus, int x, int y, int charge) {
        check.same("28: " + what, row.x(bus), x);
        check.same("29: " + what, row.y(bus), y);
        check.same("30: " + what, row.charge(bus), charge);
    }

    private static void alongXThenY() {
        ShuttleRow row = new ShuttleRow();
        row.addBus(2, 60, 5, 5);
        row.request(3, 7, 3, 8, 2);
        where("at the depot", row, 0, 5, 5, 60);
        check.same("26: no stop yet", row.pass(1), 0);
        where("along x", row, 0, 4, 5, 59);
        row.pass(1);
        where("along x to the end", row, 0, 3, 5, 58);
        row.pass(1);
        where("then along y", row, 0, 3, 6, 57);
        check.same("31: nobody yet", row.onBoard(0), 0);
        check.same("26: the pickup", row.pass(1), 1);
        where("at the pickup", row, 0, 3, 7, 56);
        check.same("31: both riders", row.onBoard(0), 2);
        check.same("33: empty to the pickup", row.empty(0), 4);
        check.same("26: the drop", row.pass(1), 1);
        where("at the drop, and no farther", row, 0, 3, 8, 55);
        check.same("31: nobody any more", row.onBoard(0), 0);
        check.same("33: not with riders", row.empty(0), 4);
        row.pass(1);
        where("back along x", row, 0, 4, 8, 54);
        row.pass(2);
        where("back along y", row, 0, 5, 7, 52);
        row.pass(2);
        where("at the depot, not yet charging", row, 0, 5, 5, 50);
        check.same("32: all of it", row.driven(0), 10);
        check.same("33: all but 1", row.empty(0), 9);
        row.pass(1);
        where("charging", row, 0, 5, 5, 55);
        row.pass(1);
        where("full", row, 0, 5, 5, 60);
        row.pass(1);
        where("not beyond the capacity", row, 0, 5, 5, 60);
        check.same("32: charging is not driving", row.driven(0), 10);
        check.same("33: charging is not driving", row.empty(0), 9);
    }

    private static void charging() {
        ShuttleRow row = new ShuttleRow();
        row.addBus(2, 60, 5, 5);
        row.request(3, 7, 3, 9, 2);
        row.pass(12);
        where("12 driven", row, 0, 5, 5, 48);
        row.pass(2);
        where("twice 5", row, 0, 5, 5, 58);
        row.pass(1);
        where("only 2", row, 0, 5, 5, 60);
        row.pass(60);
        where("stays full", row, 0, 5, 5, 60);
    }

    private static void alongBothWays() {
        ShuttleRow row = new ShuttleRow();
        row.addBus(1, 60, 10, 10);
        row.request(12, 8, 13, 8, 1);
        row.pass(3);
        where("up along x, down along y", row, 0, 12, 9, 57);
        row.pass(2);
        where("at the drop", row, 0, 13, 8, 55);
        row.pass(4);
        where("down along x, up along y", row, 0, 10, 9, 51);
    }

    private static void severalStopsInAMinute() {
        ShuttleRow row = new ShuttleRow();
        row.addBus(2, 60, 0, 0);
        row.request(2, 0, 4, 0, 1);
        row.request(4, 0, 6, 0, 1);
        row.request(2, 0, 4, 0, 1);
        row.pass(1);
        check.same("26: both pickups", row.pass(1), 2);
        check.same("31: both riders", row.onBoard(0), 2);
        check.same("26: none", row.pass(1), 0);
        check.same("26: two drops and a pickup", row.pass(1), 3);
        check.same("31: one rider", row.onBoard(0), 1);
        check.same("26: the last drop", row.pass(60), 1);
    }

    private static void newRequestOnTheWayBack() {
        ShuttleRow row = new ShuttleRow();
        row.addBus(2, 60, 0, 0);
        row.request(0, 0, 6, 0, 1);
        row.pass(8);
        where("on the way back", row, 0, 4, 0, 52);
        row.request(5, 1, 5, 2, 1);
        row.pass(1);
        where("turns", row, 0, 5, 0, 51);
        check.same("26: the pickup and the drop", row.pass(2), 2);
        check.same("32: 11", row.driven(0), 11);
        check.same("33: all but 7", row.empty(0), 4);
    }

    private static void requestTakesABusFromCharging() {
        ShuttleRow row = new ShuttleRow();
        row.addBus(2, 60, 0, 0);
        row.request(0, 0, 6, 0, 1);
        row.pass(13);
        where("charged once", row, 0, 0, 0, 53);
        row.request(1, 0, 2, 0, 1);
        row.pass(1);
        where("drives and does not charge", row, 0, 1, 0, 52);
    }

    private static void meanRiders() {
        ShuttleRow row = new ShuttleRow();
        row.addBus(6, 60, 0, 0);
        row.addBus(6, 60, 20, 20);
        check.throwing("35: has not driven", NoSuchElementException.class, () -> row.occupancy(0));
        row.request(1, 0, 3, 0, 2);
        check.throwing("35: still has not", NoSuchElementException.class, () -> row.occupancy(0));
        row.pass(1);
        check.same("35: nobody yet", row.occupancy(0), 0f);
        row.pass(1);
        check.same("35: until now", row.occupancy(0), 2f / 2f);
        row.pass(1);
        check.same("35: two riders for 2 of 3", row.occupancy(0), 4f / 3f);
        row.pass(3);
        check.same("35: and back", row.occupancy(0), 4f / 6f);
        row.pass(10);
        check.same("35: charging is not driving", row.occupancy(0), 4f / 6f);
        row.request(0, 0, 1, 0, 5);
        row.pass(1);
        check.same("35: five more", row.occupancy(0), 9f / 7f);
        check.throwing("35: the other one has not driven", NoSuchElementException.class, () -> row.occupancy(1));
    }

    private static void emptyInBothWays() {
        ShuttleRow row = new ShuttleRow();
        row.addBus(3, 80, 0, 0);
        row.addBus(3, 80, 9, 0);
        row.request(2, 0, 4, 0, 1);
        row.request(3, 0, 5, 0, 2);
        row.request(8, 0, 8, 3, 1);
        int[] due0 = {1, 2, 2, 2, 2, 3, 4, 5, 6, 7, 7, 7};
        int[] due1 = {1, 1, 1, 1, 2, 3, 4, 5, 5, 5, 5, 5};
        for (int minute = 0; minute < due0.length; minute++) {
            row.pass(1);
            check.same("33: bus 0 at " + row.now(), row.empty(0), due0[minute]);
            check.same("34: bus 0 at " + row.now(), row.emptyByJournal(0), due0[minute]);
            check.same("33: bus 1 at " + row.now(), row.empty(1), due1[minute]);
            check.same("34: bus 1 at " + row.now(), row.emptyByJournal(1), due1[minute]);
        }
    }

    private static void cancelledOnTheWay() {
        ShuttleRow row = new ShuttleRow();
        row.addBus(3, 80, 0, 0);
        row.request(5, 0, 8, 0, 1);
        row.pass(3);
        row.cancel(0);
        row.pass(2);
        where("back to the depot", row, 0, 1, 0, 75);
        check.same("33: all of it", row.empty(0), 5);
        check.same("34: without an entry", row.emptyByJournal(0), 5);
        check.same("32: all of it", row.driven(0), 5);
    }

    private static void noSuchBus() {
        ShuttleRow row = new ShuttleRow();
        row.addBus(1, 60, 4, 4);
        for (int bus : new int[] {-1, 1, 4, Integer.MIN_VALUE, Integer.MAX_VALUE}) {
            Class<IndexOutOfBoundsException> due = IndexOutOfBoundsException.class;
            check.throwing("28: " + bus, due, () -> row.x(bus));
            check.throwing("29: " + bus, due, () -> row.y(bus));
            check.throwing("30: " + bus, due, () -> row.charge(bus));
            check.throwing("31: " + bus, due, () -> row.onBoard(bus));
            check.throwing("32: " + bus, due, () -> row.driven(bus));
            check.throwing("33: " + bus, due, () -> row.empty(bus));
            check.throwing("34: " + bus, due, () -> row.emptyByJournal(bus));
            check.throwing("35: " + bus, due, () -> row.occupancy(bus));
        }
    }
}

import java.util.NoSuchElementException;

/** Promises 1 to 4: a new object, setDetour, setWait, addBus. */
public final class SettingsTest {
    private static final Check check = new Check("SettingsTest");

    public static void main(String[] args) {
        newObject();
        detour();
        detourIsForLaterRequests();
        waiting();
        waitIsForLaterRequests();
        firstBuses();
        busEdges();
        fullOfBuses();
        check.end();
    }

    private static void newObject() {
        ShuttleRow row = new ShuttleRow();
        check.same("1: now", row.now(), 0);
        check.same("1: requests", row.requests(), 0);
        check.same("1: entries", row.entries(), 0);
        check.throwing("1: no bus", IndexOutOfBoundsException.class, () -> row.x(0));
        check.throwing("1: no request", IndexOutOfBoundsException.class, () -> row.status(0));
        check.throwing("1: no entry", IndexOutOfBoundsException.class, () -> row.entryBus(0));
        check.throwing("1: nobody was dropped", NoSuchElementException.class, () -> row.worstRide());
        ShuttleRow other = new ShuttleRow();
        row.addBus(1, 20, 0, 0);
        row.setWait(3);
        check.throwing("1: another object has no bus", IndexOutOfBoundsException.class, () -> other.x(0));
        check.same("1: another object has its own wait", other.setWait(4), 15);
    }

    private static void detour() {
        ShuttleRow row = new ShuttleRow();
        check.same("2: at first", row.setDetour(0), 50);
        check.same("2: 0 before", row.setDetour(200), 0);
        for (int percent : new int[] {-1, 201, Integer.MIN_VALUE, Integer.MAX_VALUE}) {
            check.throwing("2: " + percent, IllegalArgumentException.class, () -> row.setDetour(percent));
        }
        check.same("2: 200 before, and throwing changed nothing", row.setDetour(7), 200);
    }

    private static void detourIsForLaterRequests() {
        ShuttleRow row = new ShuttleRow();
        row.request(0, 0, 3, 0, 1);
        row.setDetour(199);
        check.same("2: fixed when the request came, 4.5 rounded down", row.longestRide(0), 4);
        row.request(0, 0, 0, 1, 1);
        check.same("2: 2.99 rounded down", row.longestRide(1), 2);
        row.setDetour(200);
        row.request(0, 0, 20, 20, 1);
        check.same("2: three times the direct ride", row.longestRide(2), 120);
        row.setDetour(0);
        row.request(20, 0, 0, 1, 1);
        check.same("2: the direct ride", row.longestRide(3), 21);
        check.same("2: the earlier one stays", row.longestRide(2), 120);
    }

    private static void waiting() {
        ShuttleRow row = new ShuttleRow();
        check.same("3: at first", row.setWait(60), 15);
        check.same("3: 60 before", row.setWait(0), 60);
        for (int minutes : new int[] {-1, 61, Integer.MIN_VALUE, Integer.MAX_VALUE}) {
            check.throwing("3: " + minutes, IllegalArgumentException.class, () -> row.setWait(minutes));
        }
        check.same("3: 0 before, and throwing changed nothing", row.setWait(9), 0);
    }

    private static void waitIsForLaterRequests() {
        ShuttleRow row = new ShuttleRow();
        row.request(0, 0, 3, 0, 1);
        row.setWait(4);
        check.same("3: fixed when the request came", row.latestPickup(0), 15);
        row.pass(10);
        row.request(0, 0, 3, 0, 1);
        check.same("3: the time then plus the wait", row.latestPickup(1), 14);
        row.setWait(0);
        row.request(0, 0, 3, 0, 1);
        check.same("3: no wait", row.latestPickup(2), 10);
        check.same("3: the earlier one stays", row.latestPickup(1), 14);
    }

    private static void firstBuses() {
        ShuttleRow row = new ShuttleRow();
        check.same("4: the first", row.addBus(6, 200, 20, 0), 0);
        check.same("4: the second", row.addBus(1, 20, 0, 20), 1);
        check.same("4: x", row.x(0), 20);
        check.same("4: y", row.y(0), 0);
        check.same("4: x of the second", row.x(1), 0);
        check.same("4: y of the second", row.y(1), 20);
        check.same("4: the charge is the capacity", row.charge(0), 200);
        check.same("4: the charge of the second", row.charge(1), 20);
        check.same("4: no stops", row.stops(0), 0);
        check.same("4: nobody on board", row.onBoard(0), 0);
        check.same("4: has not driven", row.driven(0), 0);
        check.same("4: at its depot", row.length(1), 0);
        check.throwing("4: no third", IndexOutOfBoundsException.class, () -> row.charge(2));
    }

    private static void busEdges() {
        ShuttleRow row = new ShuttleRow();
        int[][] wrong = {{0, 60, 5, 5}, {7, 60, 5, 5}, {-1, 60, 5, 5}, {2, 19, 5, 5}, {2, 201, 5, 5}, {2, 60, -1, 5},
            {2, 60, 21, 5}, {2, 60, 5, -1}, {2, 60, 5, 21}, {Integer.MIN_VALUE, 60, 5, 5}, {2, Integer.MAX_VALUE, 5, 5}};
        for (int[] bus : wrong) {
            check.throwing("4: " + java.util.Arrays.toString(bus), IllegalArgumentException.class,
                    () -> row.addBus(bus[0], bus[1], bus[2], bus[3]));
        }
        check.throwing("4: throwing added nothing", IndexOutOfBoundsException.class, () -> row.x(0));
        check.same("4: the least", row.addBus(1, 20, 0, 0), 0);
        check.same("4: the most", row.addBus(6, 200, 20, 20), 1);
    }

    private static void fullOfBuses() {
        ShuttleRow row = new ShuttleRow();
        for (int b = 0; b < 4; b++) {
            check.same("4: number", row.addBus(2, 60, b, b), b);
        }
        check.throwing("4: a fifth", IllegalStateException.class, () -> row.addBus(2, 60, 5, 5));
        check.throwing("4: a wrong fifth", IllegalArgumentException.class, () -> row.addBus(0, 60, 5, 5));
        check.throwing("4: a wrong place", IllegalArgumentException.class, () -> row.addBus(2, 60, 5, 21));
        check.throwing("4: still four", IndexOutOfBoundsException.class, () -> row.x(4));
        check.same("4: the fourth", row.x(3), 3);
    }
}

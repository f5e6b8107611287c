import java.util.NoSuchElementException;

/** Promises 18 to 25: what is told of a tour, the best order, improve. */
public final class TourTest {
    private static final Check check = new Check("TourTest");

    public static void main(String[] args) {
        stopsOfATour();
        tourWithoutStops();
        noSuchBus();
        noSuchStop();
        lengthAlongTheTour();
        shorterOrder();
        shorterOrderBeginsWhereTheBusIs();
        equalOrder();
        equalOrderThatIsLaterDifferent();
        keepsThePromises();
        bestLengthChangesNothing();
        eachAlone();
        pickupAheadOfDrop();
        wholeCharge();
        check.end();
    }

    private static void stopsOfATour() {
        ShuttleRow row = new ShuttleRow();
        row.addBus(1, 60, 20, 20);
        row.addBus(2, 60, 0, 0);
        row.pass(7);
        row.request(2, 0, 6, 0, 1);
        row.request(3, 0, 5, 0, 1);
        check.same("18: of bus 0", row.stops(0), 0);
        check.same("18: of bus 1", row.stops(1), 4);
        check.same("19: first", row.stopRequest(1, 0), 0);
        check.same("19: second", row.stopRequest(1, 1), 1);
        check.same("19: third", row.stopRequest(1, 2), 1);
        check.same("19: last", row.stopRequest(1, 3), 0);
        check.same("20: first", row.isPickup(1, 0), true);
        check.same("20: second", row.isPickup(1, 1), true);
        check.same("20: third", row.isPickup(1, 2), false);
        check.same("20: last", row.isPickup(1, 3), false);
        check.same("21: times", Check.times(row, 1), "9 10 12 13");
        row.pass(2);
        check.same("18: a stop was made", row.stops(1), 3);
        check.same("19: the next one is first", row.stopRequest(1, 0), 1);
        check.same("21: times stay", Check.times(row, 1), "10 12 13");
        row.pass(4);
        check.same("18: all were made", row.stops(1), 0);
    }

    private static void tourWithoutStops() {
        ShuttleRow row = new ShuttleRow();
        row.addBus(1, 60, 4, 4);
        check.same("22: at the depot", row.length(0), 0);
        check.same("23: at the depot", row.bestLength(0), 0);
        check.same("24: at the depot", row.bestLengthByTrying(0), 0);
        check.same("25: at the depot", row.improve(0), 0);
        row.request(4, 4, 7, 6, 1);
        row.pass(5);
        check.same("18: dropped", row.stops(0), 0);
        check.same("22: to the depot", row.length(0), 5);
        check.same("23: to the depot", row.bestLength(0), 5);
        check.same("24: to the depot", row.bestLengthByTrying(0), 5);
        check.same("25: to the depot", row.improve(0), 0);
    }

    private static void noSuchBus() {
        ShuttleRow row = new ShuttleRow();
        row.addBus(1, 60, 4, 4);
        row.request(4, 5, 7, 6, 1);
        for (int bus : new int[] {-1, 1, 4, Integer.MIN_VALUE, Integer.MAX_VALUE}) {
            Class<IndexOutOfBoundsException> due = IndexOutOfBoundsException.class;
            check.throwing("18: " + bus, due, () -> row.stops(bus));
            check.throwing("19: " + bus, due, () -> row.stopRequest(bus, 0));
            check.throwing("20: " + bus, due, () -> row.isPickup(bus, 0));
            check.throwing("21: " + bus, due, () -> row.stopTime(bus, 0));
            check.throwing("19: the bus first", due, () -> row.stopRequest(bus, 9));
            check.throwing("20: the bus first", due, () -> row.isPickup(bus, 9));
            check.throwing("21: the bus first", due, () -> row.stopTime(bus, -1));
            check.throwing("22: " + bus, due, () -> row.length(bus));
            check.throwing("23: " + bus, due, () -> row.bestLength(bus));
            check.throwing("24: " + bus, due, () -> row.bestLengthByTrying(bus));
            check.throwing("25: " + bus, due, () -> row.improve(bus));
        }
    }

    private static void noSuchStop() {
        ShuttleRow row = new ShuttleRow();
        row.addBus(1, 60, 4, 4);
        row.addBus(1, 60, 14, 4);
        row.request(4, 5, 7, 6, 1);
        for (int index : new int[] {-1, 2, 6, 8, Integer.MIN_VALUE, Integer.MAX_VALUE}) {
            check.throwing("19: " + index, NoSuchElementException.class, () -> row.stopRequest(0, index));
            check.throwing("20: " + index, NoSuchElementException.class, () -> row.isPickup(0, index));
            check.throwing("21: " + index, NoSuchElementException.class, () -> row.stopTime(0, index));
        }
        check.throwing("19: no stops", NoSuchElementException.class, () -> row.stopRequest(1, 0));
        check.throwing("20: no stops", NoSuchElementException.class, () -> row.isPickup(1, 0));
        check.throwing("21: no stops", NoSuchElementException.class, () -> row.stopTime(1, 0));
    }

    private static void lengthAlongTheTour() {
        ShuttleRow row = new ShuttleRow();
        row.addBus(1, 60, 10, 10);
        row.request(8, 13, 12, 7, 1);
        check.same("22: 5 to the pickup, 10 to the drop, 5 to the depot", row.length(0), 20);
        row.pass(3);
        check.same("22: 3 are driven", row.length(0), 17);
        row.pass(12);
        check.same("22: 15 are driven", row.length(0), 5);
        row.pass(5);
        check.same("22: at the depot", row.length(0), 0);
    }

    /** Behind 4 and 5 with both seats taken, 3 is picked up last; but it may be between them. */
    private static void shorterOrder() {
        ShuttleRow row = new ShuttleRow();
        row.addBus(2, 63, 1, 0);
        row.setWait(56);
        row.setDetour(115);
        row.request(1, 0, 4, 0, 1);
        row.request(1, 0, 5, 0, 1);
        row.request(3, 0, 8, 0, 1);
        check.same("5: as it came", Check.tour(row, 0), "d1 d0 p2 d2");
        check.same("22: as it came", row.length(0), 4 + 1 + 1 + 5 + 7);
        check.same("23: shorter", row.bestLength(0), 3 + 1 + 2 + 3 + 7);
        check.same("24: shorter", row.bestLengthByTrying(0), 16);
        check.same("25: by 2", row.improve(0), 2);
        check.same("25: the best order", Check.tour(row, 0), "d0 p2 d1 d2");
        check.same("21: the times of the best order", Check.times(row, 0), "3 4 6 9");
        check.same("22: the length of the best order", row.length(0), 16);
        check.same("25: already the best", row.improve(0), 0);
    }

    private static void shorterOrderBeginsWhereTheBusIs() {
        ShuttleRow row = new ShuttleRow();
        row.addBus(2, 75, 0, 0);
        row.setWait(21);
        row.setDetour(92);
        row.request(0, 0, 4, 0, 1);
        row.request(4, 0, 1, 0, 1);
        row.request(0, 0, 6, 0, 1);
        check.same("5: as it came", Check.tour(row, 0), "p1 d0 p2 d1 d2");
        check.same("22: as it came", row.length(0), 20);
        check.same("23: shorter", row.bestLength(0), 12);
        check.same("24: shorter", row.bestLengthByTrying(0), 12);
        check.same("36: only the pickup of 0", row.entries(), 1);
        check.same("25: by 8", row.improve(0), 8);
        check.same("25: the first stop was made at once", Check.tour(row, 0), "d0 d2 p1 d1");
        check.same("10: on board", row.status(2), 'r');
        check.same("15: now", row.pickupTime(2), 0);
        check.same("36: the pickup of 2", row.entries(), 2);
        check.same("38: the pickup of 2", row.entryRequest(1), 2);
        check.same("31: both", row.onBoard(0), 2);
    }

    private static void equalOrder() {
        ShuttleRow row = new ShuttleRow();
        row.addBus(2, 60, 0, 0);
        row.request(4, 0, 8, 0, 1);
        row.request(4, 0, 8, 0, 1);
        check.same("5: as it came", Check.tour(row, 0), "p1 p0 d1 d0");
        check.same("23: as long", row.bestLength(0), 16);
        check.same("24: as long", row.bestLengthByTrying(0), 16);
        check.same("25: by nothing", row.improve(0), 0);
        check.same("25: the lower number at the first place, then at the next", Check.tour(row, 0), "p0 p1 d0 d1");
    }

    private static void equalOrderThatIsLaterDifferent() {
        ShuttleRow row = new ShuttleRow();
        row.addBus(3, 100, 0, 0);
        row.request(2, 0, 9, 0, 1);
        row.request(4, 0, 9, 0, 1);
        row.request(5, 0, 9, 0, 1);
        check.same("5: as it came", Check.tour(row, 0), "p0 p1 p2 d2 d1 d0");
        check.same("25: by nothing", row.improve(0), 0);
        check.same("25: the lower numbers are dropped first", Check.tour(row, 0), "p0 p1 p2 d0 d1 d2");
    }

    /** In each of these planners another order would be shorter, but breaks a promise or lacks a seat. */
    private static void keepsThePromises() {
        ShuttleRow late = planner(2, 50, 10, new int[] {10, 0, 12, 0});
        best("the wait", late, new int[] {1, 1, 2, 1}, "p0 d0 p1 d1", 10 + 2 + 12 + 1 + 3);
        ShuttleRow onBoard = planner(2, 0, 0, new int[] {0, 0, 12, 0});
        best("the ride of a rider on board", onBoard, new int[] {1, 1, 2, 1}, "d0 p1 d1", 12 + 12 + 1 + 3);
        ShuttleRow waiting = planner(2, 0, 60, new int[] {1, 0, 12, 0});
        best("the ride of one that waits", waiting, new int[] {2, 1, 3, 1}, "p0 d0 p1 d1", 12 + 11 + 1 + 4);
        ShuttleRow oneSeat = planner(1, 200, 60, new int[] {1, 0, 12, 0});
        best("the seat", oneSeat, new int[] {2, 0, 11, 0}, "p0 d0 p1 d1", 12 + 10 + 9 + 11);
    }

    private static ShuttleRow planner(int seats, int detour, int wait, int[] first) {
        ShuttleRow row = new ShuttleRow();
        row.addBus(seats, 60, 0, 0);
        row.setDetour(detour);
        row.setWait(wait);
        row.request(first[0], first[1], first[2], first[3], 1);
        row.setWait(60);
        return row;
    }

    private static void best(String what, ShuttleRow row, int[] second, String tour, int length) {
        row.request(second[0], second[1], second[2], second[3], 1);
        check.same("23: " + what, row.bestLength(0), length);
        check.same("24: " + what, row.bestLengthByTrying(0), length);
        check.same("25: " + what, row.improve(0), 0);
        check.same("25: the tour keeps " + what, Check.tour(row, 0), tour);
    }

    private static void bestLengthChangesNothing() {
        ShuttleRow row = new ShuttleRow();
        row.addBus(2, 75, 0, 0);
        row.setWait(21);
        row.setDetour(92);
        row.request(0, 0, 4, 0, 1);
        row.request(4, 0, 1, 0, 1);
        row.request(0, 0, 6, 0, 1);
        String before = Check.all(row, 1);
        row.bestLength(0);
        check.same("23: nothing changed", Check.all(row, 1), before);
        row.bestLengthByTrying(0);
        check.same("24: nothing changed", Check.all(row, 1), before);
    }

    /** Each call is asked of a planner that has just been made or just been changed. */
    private static void eachAlone() {
        check.same("24: alone", shortened().bestLengthByTrying(0), 16);
        check.same("23: alone", shortened().bestLength(0), 16);
        check.same("25: alone", shortened().improve(0), 2);
        ShuttleRow row = shortened();
        row.addBus(1, 60, 3, 3);
        row.request(3, 4, 3, 5, 1);
        check.same("24: of bus 0", row.bestLengthByTrying(0), 16);
        check.same("24: of bus 1", row.bestLengthByTrying(1), 4);
        check.same("23: of bus 0", row.bestLength(0), 16);
        check.same("23: of bus 1", row.bestLength(1), 4);
        check.same("25: of bus 0", row.improve(0), 2);
        check.same("25: the other tour stays", Check.tour(row, 1), "p3 d3");
    }

    private static ShuttleRow shortened() {
        ShuttleRow row = new ShuttleRow();
        row.addBus(2, 63, 1, 0);
        row.setWait(56);
        row.setDetour(115);
        row.request(1, 0, 4, 0, 1);
        row.request(1, 0, 5, 0, 1);
        row.request(3, 0, 8, 0, 1);
        return row;
    }

    /** At (0,0), with the depot at (10,0), the way over the drop first would be 10. */
    private static void pickupAheadOfDrop() {
        ShuttleRow row = new ShuttleRow();
        row.addBus(2, 100, 10, 0);
        row.request(10, 0, 0, 0, 1);
        row.pass(10);
        row.request(8, 0, 2, 0, 1);
        check.same("24: the pickup first", row.bestLengthByTrying(0), 8 + 6 + 8);
        check.same("23: the pickup first", row.bestLength(0), 22);
        check.same("25: the pickup first", row.improve(0), 0);
        check.same("25: the tour", Check.tour(row, 0), "p1 d1");
    }

    private static void wholeCharge() {
        ShuttleRow row = new ShuttleRow();
        row.addBus(2, 20, 0, 0);
        row.request(4, 0, 10, 0, 1);
        row.request(4, 0, 10, 0, 1);
        check.same("5: as it came", Check.tour(row, 0), "p1 p0 d1 d0");
        check.same("23: as long as the charge", row.bestLength(0), 20);
        check.same("24: as long as the charge", row.bestLengthByTrying(0), 20);
        check.same("25: as long as the charge", row.improve(0), 0);
        check.same("25: the best one of its length", Check.tour(row, 0), "p0 p1 d0 d1");
    }
}

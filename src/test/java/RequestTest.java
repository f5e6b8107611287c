/** Promises 5 and 9 to 17: what a request gets, why it is refused, cancelling, and what is told of it. */
public final class RequestTest {
    private static final Check check = new Check("RequestTest");

    public static void main(String[] args) {
        wrongRequests();
        thirtyRequests();
        leastAdded();
        tiesGoToTheLowestBus();
        tiesGoToTheLeastPlaces();
        pickedUpAtOnce();
        seatsFault();
        stopsFault();
        waitFault();
        detourFault();
        detourFaultOfRidersOnBoard();
        batteryFault();
        firstFaultOfAPlan();
        lastFaultOfAllPlans();
        cancelling();
        cancellingMakesTheNextStop();
        cancellingWhatDoesNotWait();
        statusOverTime();
        answersOfRefusedOnes();
        noSuchRequest();
        check.end();
    }

    private static void wrongRequests() {
        ShuttleRow row = new ShuttleRow();
        row.addBus(6, 200, 0, 0);
        int[][] wrong = {{-1, 0, 5, 5, 1}, {21, 0, 5, 5, 1}, {0, -1, 5, 5, 1}, {0, 21, 5, 5, 1}, {0, 0, -1, 5, 1},
            {0, 0, 21, 5, 1}, {0, 0, 5, -1, 1}, {0, 0, 5, 21, 1}, {0, 0, 5, 5, 0}, {0, 0, 5, 5, 7}, {0, 0, 5, 5, -1},
            {Integer.MIN_VALUE, 0, 5, 5, 1}, {0, 0, 5, Integer.MAX_VALUE, 1}, {21, 3, 21, 3, 1}, {3, 3, 3, 3, 0}};
        for (int[] r : wrong) {
            check.throwing("5: " + java.util.Arrays.toString(r), IllegalArgumentException.class,
                    () -> row.request(r[0], r[1], r[2], r[3], r[4]));
        }
        check.throwing("5: the same place", UnsupportedOperationException.class, () -> row.request(3, 4, 3, 4, 1));
        check.same("5: throwing changed nothing", row.requests(), 0);
        check.same("5: the same x is not the same place", row.request(3, 4, 3, 5, 1), 0);
        check.same("5: nor is the same y", row.request(3, 4, 2, 4, 1), 1);
        check.same("5: the edges of the town", row.request(0, 20, 20, 0, 6), 2);
    }

    private static void thirtyRequests() {
        ShuttleRow row = new ShuttleRow();
        for (int r = 0; r < 30; r++) {
            check.same("5: number", row.request(0, 0, 5, 5, 1), r);
        }
        check.same("17: refused ones included", row.requests(), 30);
        check.throwing("5: the 31st", IllegalStateException.class, () -> row.request(0, 0, 5, 5, 1));
        check.throwing("5: riders first", IllegalArgumentException.class, () -> row.request(0, 0, 5, 5, 7));
        check.throwing("5: places second", UnsupportedOperationException.class, () -> row.request(5, 5, 5, 5, 1));
        check.same("17: still 30", row.requests(), 30);
        check.same("10: without a bus", row.status(29), 'x');
        check.same("11: without a bus", row.reason(29), 's');
    }

    private static void leastAdded() {
        ShuttleRow row = new ShuttleRow();
        row.addBus(2, 60, 0, 0);
        row.addBus(2, 60, 10, 0);
        row.request(9, 0, 12, 0, 1);
        check.same("5: the nearer bus", row.busOf(0), 1);
        check.same("5: no stops for the other", row.stops(0), 0);
        check.same("5: its tour", Check.tour(row, 1), "p0 d0");
        check.same("5: its length", row.length(1), 1 + 3 + 2);
        row.request(11, 0, 12, 0, 1);
        check.same("5: on the way", Check.tour(row, 1), "p0 p1 d1 d0");
        check.same("5: adds nothing", row.length(1), 6);
    }

    private static void tiesGoToTheLowestBus() {
        ShuttleRow row = new ShuttleRow();
        row.addBus(1, 60, 20, 20);
        row.addBus(1, 60, 5, 0);
        row.addBus(1, 60, 5, 0);
        row.request(4, 0, 3, 0, 1);
        check.same("5: the lower one of two that add the same", row.busOf(0), 1);
    }

    private static void tiesGoToTheLeastPlaces() {
        ShuttleRow row = new ShuttleRow();
        row.addBus(6, 60, 0, 0);
        row.request(4, 0, 8, 0, 1);
        row.request(4, 0, 8, 0, 1);
        check.same("5: the least i, and then the least j", Check.tour(row, 0), "p1 p0 d1 d0");
        check.same("5: adds nothing", row.length(0), 16);
        check.same("21: times", Check.times(row, 0), "4 4 8 8");
    }

    private static void pickedUpAtOnce() {
        ShuttleRow row = new ShuttleRow();
        row.addBus(3, 60, 5, 5);
        row.pass(2);
        row.request(5, 5, 5, 9, 2);
        check.same("5: the stop where the bus is was made", Check.tour(row, 0), "d0");
        check.same("10: on board", row.status(0), 'r');
        check.same("15: picked up now", row.pickupTime(0), 2);
        check.same("16: will be dropped", row.dropTime(0), 6);
        check.same("31: on board", row.onBoard(0), 2);
        check.same("36: one entry", row.entries(), 1);
        check.same("39: at the time now", row.entryTime(0), 2);
        check.same("40: nothing driven", row.entryDistance(0), 0);
    }

    private static void seatsFault() {
        ShuttleRow row = new ShuttleRow();
        row.addBus(2, 60, 0, 0);
        row.request(1, 0, 2, 0, 3);
        check.same("11: more riders than seats", row.reason(0), 's');
        row.request(1, 0, 2, 0, 2);
        check.same("10: as many riders as seats", row.status(1), 'w');
        row.request(0, 0, 4, 0, 2);
        check.same("5: not both at once, but one behind the other", Check.tour(row, 0), "d2 p1 d1");
    }

    private static void stopsFault() {
        ShuttleRow row = new ShuttleRow();
        row.addBus(6, 200, 0, 0);
        for (int r = 0; r < 3; r++) {
            row.request(2, 0, 4, 0, 1);
        }
        check.same("18: six stops are possible", row.stops(0), 6);
        row.request(2, 0, 4, 0, 1);
        check.same("10: not eight", row.status(3), 'x');
        check.same("11: not eight", row.reason(3), 's');
        row.pass(2);
        check.same("18: three pickups were made", row.stops(0), 3);
        row.request(3, 0, 4, 0, 1);
        check.same("10: five are possible", row.status(4), 'w');
        row.request(3, 0, 4, 0, 1);
        check.same("11: seven are not", row.reason(5), 's');
    }

    private static void waitFault() {
        ShuttleRow row = new ShuttleRow();
        row.addBus(2, 200, 0, 0);
        row.request(16, 0, 17, 0, 1);
        check.same("11: a minute too late", row.reason(0), 'w');
        row.request(8, 7, 9, 7, 1);
        check.same("10: at the last minute", row.status(1), 'w');
        check.same("15: at the last minute", row.pickupTime(1), 15);
        row.setWait(60);
        row.request(0, 1, 0, 2, 1);
        check.same("5: keeps the wait that was promised", Check.tour(row, 0), "p2 d2 p1 d1");
        row.request(0, 2, 1, 2, 1);
        check.same("15: and the latest pickup", row.pickupTime(1), 15);
        ShuttleRow other = new ShuttleRow();
        other.addBus(1, 200, 0, 0);
        other.request(15, 0, 16, 0, 1);
        other.request(0, 1, 1, 1, 1);
        check.same("11: a stop on the way would make the first one late, and behind it is late", other.reason(1), 'w');
    }

    /** Of the plans for (5,3) to (5,5) some pick up late and the others make the ride of request 0 too long. */
    private static void detourFault() {
        for (int capacity : new int[] {200, 24}) {
            ShuttleRow row = new ShuttleRow();
            row.addBus(2, capacity, 0, 0);
            row.setDetour(0);
            row.request(2, 0, 12, 0, 1);
            check.same("10: fits the battery", row.status(0), 'w');
            row.request(5, 3, 5, 5, 1);
            check.same("11: the detour, with a capacity of " + capacity, row.reason(1), 'd');
        }
    }

    private static void detourFaultOfRidersOnBoard() {
        for (int detour : new int[] {19, 20}) {
            ShuttleRow row = new ShuttleRow();
            row.addBus(2, 200, 0, 0);
            row.setDetour(detour);
            row.request(0, 0, 10, 0, 1);
            row.pass(3);
            row.setWait(2);
            row.request(4, 1, 6, 1, 1);
            check.same("14: 11.9 rounded down, or 12", row.longestRide(0), detour == 19 ? 11 : 12);
            check.same("10: with a detour of " + detour, row.status(1), detour == 19 ? 'x' : 'w');
            if (detour == 19) {
                check.same("11: the ride of riders on board", row.reason(1), 'd');
            } else {
                check.same("16: dropped at the last minute", row.dropTime(0), 12);
            }
        }
        ShuttleRow row = new ShuttleRow();
        row.addBus(2, 200, 0, 0);
        row.setDetour(0);
        row.request(0, 0, 10, 0, 1);
        row.pass(3);
        row.setWait(14);
        row.request(3, 1, 3, 2, 1);
        check.same("11: d ahead of the drop, w behind it", row.reason(1), 'd');
        row.setWait(15);
        row.request(3, 1, 3, 2, 1);
        check.same("5: behind the drop, at the last minute", Check.times(row, 0), "10 18 19");
    }

    private static void batteryFault() {
        ShuttleRow row = new ShuttleRow();
        row.addBus(2, 20, 0, 0);
        row.request(1, 0, 11, 0, 1);
        check.same("11: 22 is beyond the charge", row.reason(0), 'b');
        row.request(1, 0, 10, 0, 1);
        check.same("10: 20 is not", row.status(1), 'w');
        check.same("22: 20", row.length(0), 20);
        row.pass(4);
        check.same("30: a charge of 16 for the rest", row.charge(0), 16);
        row.setDetour(200);
        row.request(5, 0, 5, 1, 1);
        check.same("11: not even 2 more", row.reason(2), 'b');
        row.request(5, 0, 7, 0, 1);
        check.same("10: nothing more", row.status(3), 'w');
    }

    private static void firstFaultOfAPlan() {
        ShuttleRow row = new ShuttleRow();
        row.addBus(1, 20, 0, 0);
        row.request(16, 0, 17, 0, 1);
        check.same("11: w ahead of b", row.reason(0), 'w');
        row.request(16, 0, 17, 0, 2);
        check.same("11: s ahead of w and b", row.reason(1), 's');
        row.request(0, 0, 20, 0, 2);
        check.same("11: s ahead of b", row.reason(2), 's');
    }

    private static void lastFaultOfAllPlans() {
        ShuttleRow row = new ShuttleRow();
        row.addBus(1, 200, 20, 0);
        row.addBus(2, 200, 0, 20);
        row.request(19, 0, 17, 0, 2);
        check.same("11: s of bus 0, w of bus 1", row.reason(0), 'w');
        row.addBus(2, 20, 10, 0);
        row.addBus(1, 20, 18, 0);
        row.request(19, 0, 17, 0, 2);
        check.same("10: bus 2 takes it", row.busOf(1), 2);
        row.request(19, 0, 0, 0, 2);
        check.same("11: b of bus 2", row.reason(2), 'b');
    }

    private static void cancelling() {
        ShuttleRow row = new ShuttleRow();
        row.addBus(2, 200, 20, 20);
        row.addBus(6, 200, 0, 0);
        row.request(2, 0, 8, 0, 1);
        row.request(3, 0, 7, 0, 1);
        row.request(4, 0, 6, 0, 1);
        check.same("9: before", Check.tour(row, 1), "p0 p1 p2 d2 d1 d0");
        check.same("9: its bus", row.cancel(1), 1);
        check.same("9: the others stay in their order", Check.tour(row, 1), "p0 p2 d2 d0");
        check.same("10: cancelled", row.status(1), 'c');
        check.same("12: the bus of a cancelled one", row.busOf(1), 1);
        check.same("13: a cancelled one", row.latestPickup(1), 15);
        check.same("14: a cancelled one", row.longestRide(1), 6);
        check.same("17: a cancelled one counts", row.requests(), 3);
        check.throwing("9: twice", IllegalStateException.class, () -> row.cancel(1));
        check.throwing("15: cancelled", IllegalStateException.class, () -> row.pickupTime(1));
        check.throwing("16: cancelled", IllegalStateException.class, () -> row.dropTime(1));
        check.throwing("11: cancelled", IllegalStateException.class, () -> row.reason(1));
        check.same("9: the next number", row.request(5, 0, 6, 0, 1), 3);
        row.cancel(0);
        row.cancel(2);
        row.cancel(3);
        check.same("9: nothing is left", row.stops(1), 0);
        check.same("36: no stop was made", row.entries(), 0);
    }

    private static void cancellingMakesTheNextStop() {
        ShuttleRow row = new ShuttleRow();
        row.addBus(1, 200, 0, 0);
        row.setWait(2);
        row.request(2, 0, 4, 0, 1);
        row.setWait(60);
        row.request(0, 0, 6, 0, 1);
        check.same("5: behind the other", Check.tour(row, 0), "p0 d0 p1 d1");
        check.same("15: later", row.pickupTime(1), 8);
        check.same("9: its bus", row.cancel(0), 0);
        check.same("9: the pickup where the bus is was made", Check.tour(row, 0), "d1");
        check.same("10: on board", row.status(1), 'r');
        check.same("15: at once", row.pickupTime(1), 0);
        check.same("16: earlier", row.dropTime(1), 6);
        check.same("36: one entry", row.entries(), 1);
        check.same("38: of the request", row.entryRequest(0), 1);
    }

    private static void cancellingWhatDoesNotWait() {
        ShuttleRow row = new ShuttleRow();
        row.addBus(2, 200, 0, 0);
        row.request(0, 0, 3, 0, 1);
        row.request(9, 0, 12, 0, 3);
        check.throwing("9: on board", IllegalStateException.class, () -> row.cancel(0));
        check.throwing("9: refused", IllegalStateException.class, () -> row.cancel(1));
        row.pass(3);
        check.throwing("9: dropped", IllegalStateException.class, () -> row.cancel(0));
        check.throwing("9: no such request", IndexOutOfBoundsException.class, () -> row.cancel(2));
        check.throwing("9: below 0", IndexOutOfBoundsException.class, () -> row.cancel(-1));
        check.same("10: still dropped", row.status(0), 'd');
        check.same("10: still refused", row.status(1), 'x');
    }

    private static void statusOverTime() {
        ShuttleRow row = new ShuttleRow();
        row.addBus(2, 200, 0, 0);
        row.addBus(2, 200, 0, 5);
        row.request(0, 3, 4, 3, 2);
        check.same("12: the bus", row.busOf(0), 1);
        check.same("10: waits", row.status(0), 'w');
        check.same("15: planned", row.pickupTime(0), 2);
        check.same("16: planned", row.dropTime(0), 6);
        row.pass(1);
        check.same("10: still waits", row.status(0), 'w');
        check.same("15: still planned", row.pickupTime(0), 2);
        row.pass(1);
        check.same("10: on board", row.status(0), 'r');
        row.pass(3);
        check.same("15: was picked up", row.pickupTime(0), 2);
        check.same("16: will be dropped", row.dropTime(0), 6);
        row.pass(1);
        check.same("10: dropped", row.status(0), 'd');
        row.pass(9);
        check.same("15: picked up long ago", row.pickupTime(0), 2);
        check.same("16: dropped long ago", row.dropTime(0), 6);
        check.same("12: the bus stays", row.busOf(0), 1);
        check.throwing("11: was not refused", IllegalStateException.class, () -> row.reason(0));
        check.same("13: stays", row.latestPickup(0), 15);
        check.same("14: stays", row.longestRide(0), 6);
    }

    private static void answersOfRefusedOnes() {
        ShuttleRow row = new ShuttleRow();
        row.pass(60);
        row.request(0, 0, 5, 6, 1);
        check.same("13: refused", row.latestPickup(0), 75);
        check.same("14: refused, 16.5 rounded down", row.longestRide(0), 16);
        check.throwing("12: refused", IllegalStateException.class, () -> row.busOf(0));
        check.throwing("15: refused", IllegalStateException.class, () -> row.pickupTime(0));
        check.throwing("16: refused", IllegalStateException.class, () -> row.dropTime(0));
    }

    private static void noSuchRequest() {
        ShuttleRow row = new ShuttleRow();
        row.addBus(2, 200, 0, 0);
        row.request(0, 0, 3, 0, 1);
        for (int number : new int[] {-1, 1, 30, 31, Integer.MIN_VALUE, Integer.MAX_VALUE}) {
            Class<IndexOutOfBoundsException> due = IndexOutOfBoundsException.class;
            check.throwing("9: " + number, due, () -> row.cancel(number));
            check.throwing("10: " + number, due, () -> row.status(number));
            check.throwing("11: " + number, due, () -> row.reason(number));
            check.throwing("12: " + number, due, () -> row.busOf(number));
            check.throwing("13: " + number, due, () -> row.latestPickup(number));
            check.throwing("14: " + number, due, () -> row.longestRide(number));
            check.throwing("15: " + number, due, () -> row.pickupTime(number));
            check.throwing("16: " + number, due, () -> row.dropTime(number));
        }
    }
}

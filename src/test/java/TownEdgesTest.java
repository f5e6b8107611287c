/**
 * The edges that the document's terms name for the town, the buses and the requests: each method holds
 * one sentence, which stands above it.
 */
public final class TownEdgesTest {
    private static final Check check = new Check("TownEdgesTest");
    private static final Asking asking = new Asking(check);

    public static void main(String[] args) {
        coordinatesOfADepot();
        coordinatesOfARequest();
        differencesWithoutSign();
        aDistanceInAMinute();
        timeAtFirst();
        atMostFourBuses();
        beginsAtItsDepot();
        chargeAtFirst();
        aDistanceTakesOneFromTheCharge();
        lengthOfATour();
        thirtyRequestsRefused();
        thirtyRequestsCancelled();
        thirtyRequestsDropped();
        numbersInTheOrderInWhichTheyCame();
        onlyBothCoordinatesMakeTheSamePlace();
        settingsAtFirst();
        latestPickup();
        longestRideRoundedDown();
        longestRideOfAllWays();
        fixedWhenItComes();
        fiveHundredAndTwelveCalls();
        check.end();
    }

    /** Places have two coordinates x and y from 0 to 20. */
    private static void coordinatesOfADepot() {
        int[][] inTown = {{0, 7}, {20, 7}, {7, 0}, {7, 20}, {0, 0}, {20, 20}, {0, 20}, {20, 0}};
        for (int[] depot : inTown) {
            ShuttleRow row = new ShuttleRow();
            check.same("4: the edge of the town", row.addBus(1, 20, depot[0], depot[1]), 0);
            check.same("28: the edge of the town", row.x(0), depot[0]);
            check.same("29: the edge of the town", row.y(0), depot[1]);
        }
        int[][] outside = {{-1, 7}, {21, 7}, {7, -1}, {7, 21}, {-1, -1}, {21, 21}};
        for (int[] depot : outside) {
            ShuttleRow row = new ShuttleRow();
            check.throwing("4: beyond the edge", IllegalArgumentException.class,
                    () -> row.addBus(1, 20, depot[0], depot[1]));
            check.throwing("4: beyond the edge is no bus", IndexOutOfBoundsException.class, () -> row.x(0));
        }
    }

    /** Places have two coordinates x and y from 0 to 20: each one of a request at both edges, and beyond. */
    private static void coordinatesOfARequest() {
        for (int place = 0; place < 4; place++) {
            for (int edge : new int[] {0, 20}) {
                int[] r = {7, 8, 9, 11, 1};
                r[place] = edge;
                ShuttleRow row = tenTen();
                int adds = way(10, 10, r[0], r[1]) + way(r[0], r[1], r[2], r[3]) + way(r[2], r[3], 10, 10);
                asking.planned("coordinate " + place + " is " + edge, row, r, adds, 0, "p0 d0");
            }
            for (int beyond : new int[] {-1, 21}) {
                int[] r = {7, 8, 9, 11, 1};
                r[place] = beyond;
                ShuttleRow row = tenTen();
                Class<IllegalArgumentException> due = IllegalArgumentException.class;
                String what = "coordinate " + place + " is " + beyond;
                check.throwing("5: " + what, due, () -> row.request(r[0], r[1], r[2], r[3], r[4]));
                check.throwing("6: " + what, due, () -> row.quote(r[0], r[1], r[2], r[3], r[4]));
                check.throwing("7: " + what, due, () -> row.quoteByTrying(r[0], r[1], r[2], r[3], r[4]));
                check.throwing("8: " + what, due, () -> row.quotedBus(r[0], r[1], r[2], r[3], r[4]));
                check.same("17: " + what, row.requests(), 0);
            }
        }
    }

    private static ShuttleRow tenTen() {
        ShuttleRow row = new ShuttleRow();
        row.addBus(6, 200, 10, 10);
        row.setWait(60);
        return row;
    }

    private static int way(int x, int y, int otherX, int otherY) {
        return Math.max(x, otherX) - Math.min(x, otherX) + Math.max(y, otherY) - Math.min(y, otherY);
    }

    /** The distance of two places is the sum of the differences of their coordinates, without sign. */
    private static void differencesWithoutSign() {
        int[][] ways = {{13, 14, 7, 8, 1}, {7, 14, 13, 8, 1}, {13, 6, 7, 12, 1}, {7, 6, 13, 12, 1}};
        for (int[] r : ways) {
            ShuttleRow row = tenTen();
            asking.planned("7 there, 12 along, 5 back", row, r, 24, 0, "p0 d0");
            check.same("21: 7, then 12", Check.times(row, 0), "7 19");
            check.same("14: 12 and half of it", row.longestRide(0), 18);
        }
    }

    /** A bus drives a distance of 1 in a minute: it is there in the last minute of the way, and not ahead of it. */
    private static void aDistanceInAMinute() {
        ShuttleRow row = new ShuttleRow();
        row.addBus(1, 200, 0, 0);
        row.setWait(60);
        row.request(20, 20, 0, 0, 1);
        check.same("26: not in 39 minutes", row.pass(39), 0);
        check.same("26: but in 40", row.pass(1), 1);
        check.same("26: not in 39 more", row.pass(39), 0);
        check.same("26: but in 40 more", row.pass(1), 1);
        check.same("39: the pickup", row.entryTime(0), 40);
        check.same("39: the drop", row.entryTime(1), 80);
        check.same("32: a distance in each minute", row.driven(0), 80);
    }

    /** The time is counted in minutes, at first 0. */
    private static void timeAtFirst() {
        ShuttleRow row = new ShuttleRow();
        check.same("27: at first", row.now(), 0);
        row.addBus(1, 20, 3, 3);
        row.request(3, 3, 4, 3, 1);
        check.same("27: only minutes count", row.now(), 0);
        row.pass(1);
        check.same("27: after a minute", row.now(), 1);
    }

    /** At most 4 buses have the numbers 0 to n - 1 in the order in which they were added. */
    private static void atMostFourBuses() {
        ShuttleRow row = new ShuttleRow();
        for (int b = 0; b < 4; b++) {
            int number = b;
            check.throwing("18: not yet", IndexOutOfBoundsException.class, () -> row.stops(number));
            check.same("4: its number", row.addBus(1 + b, 50 + b, b, 20 - b), b);
        }
        for (int b = 0; b < 4; b++) {
            check.same("28: in the order", row.x(b), b);
            check.same("29: in the order", row.y(b), 20 - b);
            check.same("30: in the order", row.charge(b), 50 + b);
        }
        String before = Check.all(row, 4);
        check.throwing("4: a fifth", IllegalStateException.class, () -> row.addBus(1, 50, 5, 5));
        check.same("4: nothing changed", Check.all(row, 4), before);
    }

    /** A bus has seats, a depot, at which it begins: also if it is added late. */
    private static void beginsAtItsDepot() {
        ShuttleRow row = new ShuttleRow();
        row.pass(60);
        row.addBus(1, 30, 20, 3);
        check.same("22: at its depot", row.length(0), 0);
        row.pass(1);
        check.same("28: it stays there", row.x(0), 20);
        check.same("29: it stays there", row.y(0), 3);
        check.same("32: it has not driven", row.driven(0), 0);
    }

    /** A bus has a charge, which is the capacity at first. */
    private static void chargeAtFirst() {
        ShuttleRow row = new ShuttleRow();
        row.addBus(1, 20, 0, 0);
        row.addBus(1, 200, 0, 0);
        check.same("30: the least", row.charge(0), 20);
        check.same("30: the most", row.charge(1), 200);
        row.pass(1);
        check.same("30: not beyond the least", row.charge(0), 20);
        check.same("30: not beyond the most", row.charge(1), 200);
    }

    /** A distance of 1 takes 1 from the charge, to the very last. */
    private static void aDistanceTakesOneFromTheCharge() {
        ShuttleRow row = new ShuttleRow();
        row.addBus(1, 20, 0, 0);
        row.request(0, 0, 10, 0, 1);
        for (int minute = 1; minute <= 20; minute++) {
            row.pass(1);
            check.same("30: after " + minute, row.charge(0), 20 - minute);
        }
        check.same("28: back with an empty battery", row.x(0), 0);
        row.pass(1);
        check.same("30: from empty", row.charge(0), 5);
    }

    /** The length is the distance from the place of the bus over all its stops, if it has any, to the depot. */
    private static void lengthOfATour() {
        ShuttleRow row = new ShuttleRow();
        row.addBus(2, 60, 5, 5);
        check.same("22: no stops, at the depot", row.length(0), 0);
        row.request(7, 6, 9, 5, 1);
        check.same("22: over both stops", row.length(0), 3 + 3 + 4);
        row.pass(1);
        check.same("22: from where it is", row.length(0), 2 + 3 + 4);
        row.pass(5);
        check.same("18: no stops any more", row.stops(0), 0);
        check.same("22: no stops, away from the depot", row.length(0), 4);
        row.pass(3);
        check.same("22: nearly there", row.length(0), 1);
        row.pass(1);
        check.same("22: there again", row.length(0), 0);
    }

    /** At most 30 requests, refused ones included. */
    private static void thirtyRequestsRefused() {
        ShuttleRow row = new ShuttleRow();
        for (int r = 0; r < 29; r++) {
            row.request(0, 0, 1, 1, 1);
        }
        row.addBus(1, 60, 0, 0);
        check.same("5: the thirtieth", row.request(1, 0, 2, 0, 1), 29);
        check.same("10: it is planned", row.status(29), 'w');
        noMore(row);
    }

    /** At most 30 requests: cancelled ones count as well. */
    private static void thirtyRequestsCancelled() {
        ShuttleRow row = new ShuttleRow();
        row.addBus(1, 60, 0, 0);
        for (int r = 0; r < 30; r++) {
            check.same("5: number", row.request(1, 0, 2, 0, 1), r);
            row.cancel(r);
        }
        noMore(row);
    }

    /** At most 30 requests: those that were dropped count as well. */
    private static void thirtyRequestsDropped() {
        ShuttleRow row = new ShuttleRow();
        row.addBus(1, 60, 0, 0);
        for (int r = 0; r < 30; r++) {
            check.same("5: number", row.request(0, 0, 1, 0, 1), r);
            row.pass(2);
        }
        check.same("10: the last one too", row.status(29), 'd');
        check.same("36: all of their stops", row.entries(), 60);
        check.same("38: the last one", row.entryRequest(59), 29);
        noMore(row);
    }

    private static void noMore(ShuttleRow row) {
        String tour = Check.tour(row, 0);
        check.throwing("5: the 31st", IllegalStateException.class, () -> row.request(1, 0, 2, 0, 1));
        check.throwing("5: the 31st, that would be refused", IllegalStateException.class,
                () -> row.request(20, 20, 2, 0, 6));
        check.same("17: thirty", row.requests(), 30);
        check.same("5: the tour stays", Check.tour(row, 0), tour);
        check.throwing("10: no 31st", IndexOutOfBoundsException.class, () -> row.status(30));
    }

    /** They have the numbers 0 to n - 1 in the order in which they came. */
    private static void numbersInTheOrderInWhichTheyCame() {
        ShuttleRow row = new ShuttleRow();
        row.addBus(2, 60, 0, 0);
        check.throwing("10: none yet", IndexOutOfBoundsException.class, () -> row.status(0));
        check.same("5: planned", row.request(1, 0, 3, 0, 1), 0);
        check.throwing("10: one", IndexOutOfBoundsException.class, () -> row.status(1));
        check.same("5: refused", row.request(1, 0, 5, 0, 3), 1);
        row.cancel(0);
        check.same("5: behind a cancelled one", row.request(0, 0, 9, 0, 1), 2);
        check.same("14: of the first", row.longestRide(0), 3);
        check.same("14: of the second", row.longestRide(1), 6);
        check.same("14: of the third", row.longestRide(2), 13);
        check.same("10: of the first", row.status(0), 'c');
        check.same("10: of the second", row.status(1), 'x');
        check.same("10: of the third", row.status(2), 'r');
    }

    /** A request has a place from which and another one to which it goes. */
    private static void onlyBothCoordinatesMakeTheSamePlace() {
        ShuttleRow row = tenTen();
        Class<UnsupportedOperationException> due = UnsupportedOperationException.class;
        for (int edge : new int[] {0, 10, 20}) {
            check.throwing("5: the same place", due, () -> row.request(edge, edge, edge, edge, 1));
            check.throwing("6: the same place", due, () -> row.quote(edge, edge, edge, edge, 1));
            check.throwing("7: the same place", due, () -> row.quoteByTrying(edge, edge, edge, edge, 1));
            check.throwing("8: the same place", due, () -> row.quotedBus(edge, edge, edge, edge, 1));
        }
        check.same("17: none", row.requests(), 0);
        asking.planned("the same x", tenTen(), new int[] {10, 9, 10, 8, 1}, 4, 0, "p0 d0");
        asking.planned("the same y", tenTen(), new int[] {9, 10, 8, 10, 1}, 4, 0, "p0 d0");
        asking.planned("x and y exchanged", tenTen(), new int[] {9, 10, 10, 9, 1}, 4, 0, "p0 d0");
    }

    /** There is a detour, at first 50 percent, and a wait, at first 15 minutes. */
    private static void settingsAtFirst() {
        ShuttleRow row = new ShuttleRow();
        row.request(0, 0, 20, 20, 1);
        check.same("13: 15", row.latestPickup(0), 15);
        check.same("14: 50 percent", row.longestRide(0), 60);
        check.same("2: 50", row.setDetour(50), 50);
        check.same("3: 15", row.setWait(15), 15);
    }

    /** When a request comes, its latest pickup is fixed as the time then plus the wait. */
    private static void latestPickup() {
        ShuttleRow row = new ShuttleRow();
        row.setWait(0);
        row.request(0, 0, 1, 0, 1);
        check.same("13: at the time 0, without a wait", row.latestPickup(0), 0);
        row.setWait(60);
        row.request(0, 0, 1, 0, 1);
        check.same("13: at the time 0, with the longest wait", row.latestPickup(1), 60);
        row.pass(60);
        row.pass(60);
        row.request(0, 0, 1, 0, 1);
        check.same("13: later, with the longest wait", row.latestPickup(2), 180);
        row.setWait(0);
        row.request(0, 0, 1, 0, 1);
        check.same("13: later, without a wait", row.latestPickup(3), 120);
    }

    /** The product of the direct ride and of 100 plus the detour, divided by 100 and rounded down. */
    private static void longestRideRoundedDown() {
        int[][] due = {{1, 0, 1}, {1, 50, 1}, {1, 99, 1}, {1, 100, 2}, {1, 199, 2}, {1, 200, 3}, {2, 49, 2}, {2, 50, 3},
            {3, 33, 3}, {3, 34, 4}, {3, 66, 4}, {3, 67, 5}, {7, 42, 9}, {7, 43, 10}, {20, 15, 23}, {20, 14, 22},
            {39, 1, 39}, {39, 2, 39}, {39, 3, 40}, {39, 199, 116}, {40, 0, 40}, {40, 199, 119}, {40, 200, 120}};
        ShuttleRow row = new ShuttleRow();
        for (int k = 0; k < due.length; k++) {
            row.setDetour(due[k][1]);
            int toX = Math.min(20, due[k][0]);
            row.request(0, 0, toX, due[k][0] - toX, 1);
            check.same("14: " + due[k][0] + " with " + due[k][1] + " percent", row.longestRide(k), due[k][2]);
        }
    }

    /** Divided by 100 and rounded down: a whole product stays whole, with each direct ride and each detour. */
    private static void longestRideOfAllWays() {
        for (int detour = 0; detour <= 200; detour++) {
            ShuttleRow[] rows = {new ShuttleRow(), new ShuttleRow()};
            rows[0].setDetour(detour);
            rows[1].setDetour(detour);
            for (int direct = 1; direct <= 40; direct++) {
                ShuttleRow row = rows[direct % 2];
                int number = row.request(0, Math.max(0, 20 - direct), Math.max(0, direct - 20), 20, 1);
                int left = direct * (100 + detour) - 100 * row.longestRide(number);
                check.same("14: " + direct + " with " + detour + " percent", left >= 0 && left < 100, true);
            }
        }
    }

    /** Both are fixed when a request comes: whatever comes later leaves them, be it refused or not. */
    private static void fixedWhenItComes() {
        ShuttleRow row = new ShuttleRow();
        row.addBus(2, 60, 0, 0);
        row.request(2, 0, 6, 0, 1);
        row.request(2, 0, 5, 0, 1);
        row.request(2, 0, 10, 0, 3);
        row.setDetour(200);
        row.setWait(60);
        for (int minute = 0; minute < 10; minute++) {
            check.same("13: planned", row.latestPickup(0), 15);
            check.same("14: planned", row.longestRide(0), 6);
            check.same("13: waits or is cancelled", row.latestPickup(1), 15);
            check.same("14: waits or is cancelled", row.longestRide(1), 4);
            check.same("13: refused", row.latestPickup(2), 15);
            check.same("14: refused", row.longestRide(2), 12);
            if (minute == 0) {
                row.cancel(1);
            }
            row.pass(1);
        }
        check.same("10: dropped", row.status(0), 'd');
    }

    /** An object is used for at most 512 calls: the last ones answer as well, and late. */
    private static void fiveHundredAndTwelveCalls() {
        ShuttleRow row = new ShuttleRow();
        row.addBus(1, 20, 0, 0);
        for (int call = 1; call < 505; call++) {
            row.pass(60);
        }
        check.same("27: of 504 hours", row.now(), 504 * 60);
        check.same("5: late", row.request(1, 0, 2, 0, 1), 0);
        check.same("13: late", row.latestPickup(0), 504 * 60 + 15);
        check.same("15: late", row.pickupTime(0), 504 * 60 + 1);
        check.same("26: late", row.pass(60), 2);
        check.same("39: late", row.entryTime(1), 504 * 60 + 2);
        check.same("30: the 512th call", row.charge(0), 20);
    }
}

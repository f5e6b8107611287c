/**
 * The edges that the document's terms name for the checks of a plan and for the reason of a refusal: each
 * method holds one sentence, which stands above it, in all three quotes and in the request.
 */
public final class PlanEdgesTest {
    private static final Check check = new Check("PlanEdgesTest");
    private static final Asking asking = new Asking(check);

    public static void main(String[] args) {
        placesOfAnEmptyTour();
        placesOfATourWithOneStop();
        placesOfATourWithTwoStops();
        placesOfATourWithFourStops();
        moreThanSixStops();
        moreRidersThanSeats();
        moreRidersThanSeatsWithRidersOnBoard();
        moreRidersThanSeatsSomewhereOnIt();
        seatsStopByStop();
        laterThanItsLatestPickup();
        laterThanTheLatestPickupOfAnother();
        ridersOnBoardArePickedUp();
        greaterThanItsLongestRide();
        greaterThanTheLongestRideOfAnother();
        greaterThanTheLongestRideOfRidersOnBoard();
        longerThanTheCharge();
        longerThanWhatIsLeftOfTheCharge();
        longerThanAChargeThatIsNotTheCapacity();
        faultOfOnePlan();
        faultOfOnePlanWithStops();
        eachCheckForTheWholeTour();
        lastFaultOfAllBuses();
        lastFaultOfAllPlansOfABus();
        noBus();
        refusedLeavesNothing();
        check.end();
    }

    private static int[] wish(int... numbers) {
        return numbers;
    }

    /** A bus at (0,0), and one request that it has. */
    private static ShuttleRow having(int seats, int capacity, int detour, int wait, int... request) {
        ShuttleRow row = new ShuttleRow();
        row.addBus(seats, capacity, 0, 0);
        row.setDetour(detour);
        row.setWait(wait);
        Asking.ask(row, request);
        return row;
    }

    /** Both from 0 to the number of its stops: of no stops, 0 is the end. */
    private static void placesOfAnEmptyTour() {
        ShuttleRow row = new ShuttleRow();
        row.addBus(2, 200, 0, 0);
        asking.planned("i 0, j 0 of 0", row, wish(3, 0, 5, 0, 1), 10, 0, "p0 d0");
    }

    /** A place i and a place j that is not less than i, both from 0 to the number of its stops. */
    private static void placesOfATourWithOneStop() {
        int[] onBoard = {0, 0, 8, 0, 1};
        asking.planned("i 0, j 0 of 1", having(2, 200, 0, 15, onBoard), wish(2, 0, 4, 0, 1), 0, 0, "p1 d1 d0");
        asking.planned("i 0, j 1 of 1", having(2, 200, 0, 15, onBoard), wish(2, 0, 9, 0, 1), 2, 0, "p1 d0 d1");
        asking.planned("i 1, j 1 of 1", having(2, 200, 0, 15, onBoard), wish(9, 0, 10, 0, 1), 4, 0, "d0 p1 d1");
    }

    /** The pickup ahead of the stop i, the drop ahead of the stop j, behind the pickup if both are the same. */
    private static void placesOfATourWithTwoStops() {
        int[] waits = {4, 0, 8, 0, 1};
        asking.planned("i 0, j 0 of 2", having(2, 200, 0, 15, waits), wish(1, 0, 3, 0, 1), 0, 0, "p1 d1 p0 d0");
        asking.planned("i 0, j 1 of 2", having(2, 200, 0, 15, waits), wish(2, 0, 6, 0, 1), 0, 0, "p1 p0 d1 d0");
        asking.planned("i 0, j 2 of 2", having(2, 200, 0, 15, waits), wish(3, 0, 9, 0, 1), 2, 0, "p1 p0 d0 d1");
        asking.planned("i 1, j 1 of 2", having(2, 200, 0, 15, waits), wish(5, 0, 7, 0, 1), 0, 0, "p0 p1 d1 d0");
        asking.planned("i 1, j 2 of 2", having(2, 200, 0, 15, waits), wish(6, 0, 9, 0, 1), 2, 0, "p0 p1 d0 d1");
        asking.planned("i 2, j 2 of 2", having(2, 200, 0, 15, waits), wish(9, 0, 10, 0, 1), 4, 0, "p0 d0 p1 d1");
    }

    /** The number of the stops stands for the end. */
    private static void placesOfATourWithFourStops() {
        asking.planned("i 0, j 0 of 4", four(), wish(1, 0, 2, 0, 1), 0, 0, "p2 d2 p0 d0 p1 d1");
        asking.planned("i 0, j 4 of 4", four(), wish(1, 0, 9, 0, 1), 2, 0, "p2 p0 d0 p1 d1 d2");
        asking.planned("i 3, j 4 of 4", four(), wish(7, 0, 9, 0, 1), 2, 0, "p0 d0 p1 p2 d1 d2");
        asking.planned("i 4, j 4 of 4", four(), wish(9, 0, 10, 0, 1), 4, 0, "p0 d0 p1 d1 p2 d2");
    }

    private static ShuttleRow four() {
        ShuttleRow row = having(2, 200, 0, 15, 2, 0, 4, 0, 1);
        row.request(6, 0, 8, 0, 1);
        check.same("5: four stops", Check.tour(row, 0), "p0 d0 p1 d1");
        return row;
    }

    /** 's': the tour has more than 6 stops. */
    private static void moreThanSixStops() {
        ShuttleRow row = having(6, 200, 50, 15, 1, 0, 8, 0, 1);
        row.request(2, 0, 7, 0, 1);
        asking.planned("6 stops", row, wish(3, 0, 6, 0, 1), 0, 0, "p0 p1 p2 d2 d1 d0");
        asking.refused("8 stops", row, wish(4, 0, 5, 0, 1), 's');
        row.pass(1);
        check.same("18: one was made", row.stops(0), 5);
        asking.refused("7 stops", row, wish(4, 0, 5, 0, 1), 's');
        row.pass(1);
        check.same("18: two were made", row.stops(0), 4);
        asking.planned("6 stops again", row, wish(4, 0, 5, 0, 1), 0, 0, "p2 p5 d5 d2 d1 d0");
    }

    /** 's': there are more riders on board than seats, and not if there are as many. */
    private static void moreRidersThanSeats() {
        for (int seats = 1; seats <= 6; seats++) {
            ShuttleRow row = new ShuttleRow();
            row.addBus(seats, 60, 0, 0);
            asking.planned("all of " + seats + " seats", row, wish(1, 0, 3, 0, seats), 6, 0, "p0 d0");
            if (seats < 6) {
                asking.refused("one more than " + seats, row, wish(1, 0, 3, 0, seats + 1), 's');
            }
            row.pass(1);
            check.same("31: all of " + seats, row.onBoard(0), seats);
        }
    }

    /** More riders than seats: those who are on board already take theirs. */
    private static void moreRidersThanSeatsWithRidersOnBoard() {
        asking.planned("the last seat", having(3, 200, 50, 15, 0, 0, 8, 0, 2), wish(2, 0, 4, 0, 1), 0, 0, "p1 d1 d0");
        asking.planned("one seat too few", having(3, 200, 50, 15, 0, 0, 8, 0, 2), wish(2, 0, 4, 0, 2), 4, 0,
                "d0 p1 d1");
    }

    /** Somewhere on it there are more riders on board than seats: also behind another stop. */
    private static void moreRidersThanSeatsSomewhereOnIt() {
        asking.planned("the last seat", having(3, 200, 50, 15, 4, 0, 8, 0, 2), wish(5, 0, 7, 0, 1), 0, 0,
                "p0 p1 d1 d0");
        asking.planned("one seat too few", having(3, 200, 50, 15, 4, 0, 8, 0, 2), wish(5, 0, 7, 0, 2), 4, 0,
                "p0 d0 p1 d1");
        ShuttleRow row = having(3, 200, 50, 15, 4, 0, 8, 0, 2);
        asking.planned("taken before the other comes", row, wish(3, 0, 6, 0, 2), 4, 0, "p1 d1 p0 d0");
    }

    /** Seats are free as soon as their riders were dropped, at the same place too, and not ahead of that. */
    private static void seatsStopByStop() {
        asking.planned("behind the drop", having(3, 200, 50, 15, 4, 0, 8, 0, 3), wish(8, 0, 9, 0, 3), 2, 0,
                "p0 d0 p1 d1");
        asking.planned("dropped ahead of the pickup", having(3, 200, 50, 15, 4, 0, 8, 0, 3), wish(2, 0, 4, 0, 3), 0, 0,
                "p1 d1 p0 d0");
    }

    /** 'w': a pickup on it is later than the latest pickup of its request. */
    private static void laterThanItsLatestPickup() {
        for (int wait : new int[] {0, 1, 15, 39}) {
            ShuttleRow row = new ShuttleRow();
            row.addBus(1, 200, 0, 0);
            row.pass(7);
            row.setWait(wait);
            int x = Math.min(20, wait + 1);
            asking.refused("a minute after " + wait, row, wish(x, wait + 1 - x, 10, 19, 1), 'w');
            x = Math.min(20, wait);
            int adds = wait + way(x, wait - x) + 29;
            String due = wait == 0 ? "d1" : "p1 d1";
            asking.planned("in the last one of " + wait, row, wish(x, wait - x, 10, 19, 1), adds, 0, due);
            check.same("15: in the last minute", row.pickupTime(1), 7 + wait);
        }
    }

    private static int way(int x, int y) {
        return Math.abs(x - 10) + Math.abs(y - 19);
    }

    /** A pickup on it is later than the latest pickup of its request: of one that the tour had already. */
    private static void laterThanTheLatestPickupOfAnother() {
        ShuttleRow row = having(2, 200, 50, 6, 4, 0, 8, 0, 1);
        row.setWait(60);
        asking.planned("at 6 of 6", row, wish(2, 1, 3, 1, 1), 2, 0, "p1 d1 p0 d0");
        check.same("15: at the last minute", row.pickupTime(0), 6);
        row = having(2, 200, 50, 5, 4, 0, 8, 0, 1);
        row.setWait(60);
        asking.planned("at 6 of 5", row, wish(2, 1, 3, 1, 1), 4, 0, "p0 d0 p1 d1");
    }

    /** A pickup on it: who is on board already was picked up, whatever the time is now. */
    private static void ridersOnBoardArePickedUp() {
        ShuttleRow row = having(2, 200, 50, 0, 0, 0, 8, 0, 1);
        row.pass(3);
        row.setWait(1);
        check.same("13: over", row.latestPickup(0), 0);
        asking.planned("with a rider on board", row, wish(4, 0, 5, 0, 1), 0, 0, "p1 d1 d0");
    }

    /** 'd': the time from the pickup to the drop is greater than its longest ride: of the request that comes. */
    private static void greaterThanItsLongestRide() {
        ShuttleRow row = having(2, 200, 0, 15, 3, 1, 5, 1, 1);
        row.setDetour(34);
        asking.planned("8 of 8", row, wish(2, 0, 8, 0, 1), 6, 0, "p1 p0 d0 d1");
        check.same("14: 8.04 rounded down", row.longestRide(1), 8);
        check.same("16: the longest ride", row.dropTime(1) - row.pickupTime(1), 8);
        row = having(2, 200, 0, 15, 3, 1, 5, 1, 1);
        row.setDetour(33);
        asking.planned("8 of 7", row, wish(2, 0, 8, 0, 1), 10, 0, "p1 d1 p0 d0");
        check.same("14: 7.98 rounded down", row.longestRide(1), 7);
    }

    /** The time from the pickup to the drop of a request on it: of one that the tour had already. */
    private static void greaterThanTheLongestRideOfAnother() {
        asking.planned("6 of 6", having(2, 200, 50, 15, 4, 0, 8, 0, 1), wish(5, 1, 7, 1, 1), 2, 0, "p0 p1 d1 d0");
        asking.planned("6 of 5", having(2, 200, 49, 15, 4, 0, 8, 0, 1), wish(5, 1, 7, 1, 1), 6, 0, "p0 d0 p1 d1");
    }

    /** Riders who are on board already have been picked up when they were. */
    private static void greaterThanTheLongestRideOfRidersOnBoard() {
        ShuttleRow row = having(2, 200, 20, 15, 0, 0, 10, 0, 1);
        row.pass(3);
        asking.planned("12 of 12", row, wish(4, 1, 6, 1, 1), 2, 0, "p1 d1 d0");
        check.same("16: the longest ride", row.dropTime(0), 12);
        row = having(2, 200, 19, 15, 0, 0, 10, 0, 1);
        row.pass(3);
        asking.planned("12 of 11", row, wish(4, 1, 6, 1, 1), 6, 0, "d0 p1 d1");
    }

    /** 'b': the tour is longer than the charge, and not if it is as long. */
    private static void longerThanTheCharge() {
        for (int capacity : new int[] {20, 21}) {
            ShuttleRow row = new ShuttleRow();
            row.addBus(2, capacity, 0, 0);
            asking.refused("22 of " + capacity, row, wish(1, 0, 11, 0, 1), 'b');
            asking.planned("20 of " + capacity, row, wish(1, 0, 10, 0, 1), 20, 0, "p1 d1");
            row.setDetour(200);
            asking.refused("2 more", row, wish(2, 0, 11, 0, 1), 'b');
        }
        ShuttleRow row = new ShuttleRow();
        row.addBus(2, 22, 0, 0);
        asking.planned("22 of 22", row, wish(1, 0, 11, 0, 1), 22, 0, "p0 d0");
        ShuttleRow far = new ShuttleRow();
        far.addBus(1, 80, 0, 0);
        asking.planned("80 of 80", far, wish(0, 1, 20, 20, 1), 80, 0, "p0 d0");
        ShuttleRow farther = new ShuttleRow();
        farther.addBus(1, 79, 0, 0);
        asking.refused("80 of 79", farther, wish(0, 1, 20, 20, 1), 'b');
    }

    /** The tour from the place of the bus, and the charge that is left there. */
    private static void longerThanWhatIsLeftOfTheCharge() {
        ShuttleRow row = having(2, 40, 50, 15, 0, 0, 10, 0, 1);
        row.pass(4);
        asking.planned("36 of 36", row, wish(11, 0, 20, 0, 1), 20, 0, "d0 p1 d1");
        row = having(2, 39, 50, 15, 0, 0, 10, 0, 1);
        row.pass(4);
        asking.refused("36 of 35", row, wish(11, 0, 20, 0, 1), 'b');
    }

    /** The charge, and not the capacity, of a bus that has not charged for long. */
    private static void longerThanAChargeThatIsNotTheCapacity() {
        ShuttleRow row = having(2, 30, 50, 15, 0, 0, 10, 0, 1);
        row.pass(22);
        check.same("30: 10 and twice 5", row.charge(0), 20);
        asking.refused("22 of 20", row, wish(1, 0, 11, 0, 1), 'b');
        asking.planned("20 of 20", row, wish(1, 0, 10, 0, 1), 20, 0, "p2 d2");
    }

    /** The first check that fails is the fault of the plan: s, w, b of the only plan of a bus without stops. */
    private static void faultOfOnePlan() {
        alone("s and w", 1, 200, 's', 16, 0, 17, 0, 2);
        alone("s and b", 1, 20, 's', 1, 0, 11, 0, 2);
        alone("s, w and b", 1, 20, 's', 16, 0, 17, 0, 2);
        alone("w and b", 1, 20, 'w', 16, 0, 17, 0, 1);
    }

    private static void alone(String what, int seats, int capacity, char due, int... r) {
        ShuttleRow row = new ShuttleRow();
        row.addBus(seats, capacity, 0, 0);
        asking.refused(what, row, r, due);
    }

    /** The first check that fails is the fault of the plan: d, which needs a rider whose ride gets longer. */
    private static void faultOfOnePlanWithStops() {
        ShuttleRow row = having(1, 200, 0, 15, 0, 0, 10, 0, 1);
        asking.refused("s and d", row, wish(5, 5, 6, 5, 2), 's');
        row = having(2, 200, 0, 4, 0, 0, 10, 0, 1);
        asking.refused("w and d", row, wish(0, 5, 0, 6, 1), 'w');
        row = having(2, 24, 0, 15, 0, 0, 10, 0, 1);
        asking.refused("d and b ahead of the drop, w and b behind it", row, wish(5, 3, 5, 5, 1), 'd');
        row = having(2, 200, 0, 15, 0, 0, 10, 0, 1);
        asking.refused("d ahead of the drop, w behind it", row, wish(5, 3, 5, 5, 1), 'd');
    }

    /** Each check for the whole tour: a late pickup behind too long a ride is 'w', and 7 stops are always 's'. */
    private static void eachCheckForTheWholeTour() {
        ShuttleRow row = having(3, 200, 0, 7, 0, 0, 5, 0, 1);
        row.request(7, 0, 9, 0, 1);
        check.same("5: before", Check.tour(row, 0), "d0 p1 d1");
        row.setWait(14);
        asking.refused("d at the drop of 0, then w at the pickup of 1", row, wish(1, 2, 1, 3, 1), 'w');
        row = having(6, 200, 50, 15, 1, 0, 8, 0, 1);
        row.request(2, 0, 7, 0, 1);
        row.request(3, 0, 6, 0, 1);
        check.same("18: full", row.stops(0), 6);
        asking.refused("8 stops, and late", row, wish(20, 20, 19, 20, 1), 's');
        row.pass(1);
        asking.refused("7 stops, and late", row, wish(20, 20, 19, 20, 1), 's');
    }

    /** The reason is that of the faults of all plans that is last in the order s, w, d, b, whichever bus has it. */
    private static void lastFaultOfAllBuses() {
        String order = "swdb";
        for (int one = 0; one < 4; one++) {
            for (int other = 0; other < 4; other++) {
                ShuttleRow row = new ShuttleRow();
                row.setDetour(0);
                addFaulty(row, order.charAt(one));
                if (other != one) {
                    addFaulty(row, order.charAt(other));
                }
                char due = order.charAt(Math.max(one, other));
                asking.refused(order.charAt(one) + " and " + order.charAt(other), row, wish(5, 3, 5, 5, 2), due);
            }
        }
        ShuttleRow row = new ShuttleRow();
        row.setDetour(0);
        for (char fault : new char[] {'d', 'b', 's', 'w'}) {
            addFaulty(row, fault);
        }
        asking.refused("d, b, s, w", row, wish(5, 3, 5, 5, 2), 'b');
    }

    /** A bus whose plans for two riders from (5,3) to (5,5) have this fault, the last one of them at least. */
    private static void addFaulty(ShuttleRow row, char fault) {
        if (fault == 's') {
            row.addBus(1, 200, 20, 20);
        } else if (fault == 'w') {
            row.addBus(2, 200, 20, 20);
        } else if (fault == 'b') {
            row.addBus(2, 20, 5, 14);
        } else {
            int bus = row.addBus(3, 200, 0, 0);
            check.same("5: a rider on board", row.busOf(row.request(0, 0, 10, 0, 1)), bus);
        }
    }

    /** The reason is that of the faults of all plans of a bus, be it the first plan's or the last one's. */
    private static void lastFaultOfAllPlansOfABus() {
        ShuttleRow row = having(1, 200, 50, 15, 0, 0, 10, 0, 1);
        row.pass(1);
        asking.refused("s ahead of the drop, w behind it", row, wish(1, 2, 1, 3, 1), 'w');
        row = having(1, 30, 50, 15, 0, 0, 10, 0, 1);
        asking.refused("s ahead of the drop, b behind it", row, wish(11, 0, 16, 0, 1), 'b');
        row = having(1, 200, 0, 15, 4, 0, 10, 0, 1);
        asking.refused("w ahead of the pickup and behind the drop, s between them", row, wish(5, 5, 5, 6, 1), 'w');
    }

    /** The reason is 's' if there is no bus, whatever is wished. */
    private static void noBus() {
        for (int wait : new int[] {0, 60}) {
            ShuttleRow row = new ShuttleRow();
            row.setWait(wait);
            asking.refused("no bus", row, wish(20, 20, 0, 0, 1), 's');
            asking.refused("no bus for six", row, wish(0, 0, 20, 20, 6), 's');
        }
    }

    /** What a refused request leaves: nothing on any tour, and the next one is planned as if it had not come. */
    private static void refusedLeavesNothing() {
        ShuttleRow row = having(2, 60, 50, 15, 2, 0, 6, 0, 1);
        asking.refused("three riders", row, wish(3, 0, 5, 0, 3), 's');
        check.same("5: the tour stays", Check.tour(row, 0), "p0 d0");
        asking.planned("as if it had not come", row, wish(3, 0, 5, 0, 1), 0, 0, "p0 p2 d2 d0");
    }
}

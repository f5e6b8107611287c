/**
 * The edges that the document's terms name for the orders of a tour: each method holds one sentence,
 * which stands above it, in both ways of finding the best length and in improve.
 */
public final class OrderEdgesTest {
    private static final Check check = new Check("OrderEdgesTest");
    private static final Asking asking = new Asking(check);

    /** The minutes that have passed before each planner gets its buses. */
    private static int begin;

    public static void main(String[] args) {
        for (int minutes : new int[] {0, 7, 60}) {
            begin = minutes;
            all();
        }
        check.end();
    }

    private static void all() {
        withoutStops();
        withOneStop();
        asManyRidersAsSeats();
        moreRidersThanSeats();
        inTheLastMinuteOfTheWait();
        aMinuteTooLate();
        theLongestRide();
        theLongestRideOfRidersOnBoard();
        longerThanTheLongestRide();
        longerThanTheLongestRideOfRidersOnBoard();
        asLongAsTheCharge();
        pickupAheadOfItsDrop();
        leastLength();
        leastLengthOfAFullTour();
        lowerNumberAtTheFirstPlace();
        lowerNumberAtTheFirstPlaceWhereTheyDiffer();
        notTheLastPlaceWhereTheyDiffer();
        lowerNumberBeItADropOrAPickup();
        alsoIfAsLong();
        theOrderNowIsAlwaysPossible();
        onlyTheTourOfThatBus();
    }

    private static ShuttleRow planner() {
        ShuttleRow row = new ShuttleRow();
        if (begin > 0) {
            row.pass(begin);
        }
        return row;
    }

    private static ShuttleRow bus(int seats, int capacity) {
        ShuttleRow row = planner();
        row.addBus(seats, capacity, 0, 0);
        return row;
    }

    private static void before(ShuttleRow row, String tour, int length) {
        check.same("5: before", Check.tour(row, 0), tour);
        check.same("22: before", row.length(0), length);
    }

    /** The stops, if it has any: without them the length is the way to the depot, and nothing gets less. */
    private static void withoutStops() {
        ShuttleRow row = bus(1, 60);
        asking.best("at the depot", row, 0, 0, "");
        row.request(0, 0, 7, 0, 1);
        row.pass(7);
        asking.best("away from the depot", row, 0, 7, "");
    }

    /** One stop has one order. */
    private static void withOneStop() {
        ShuttleRow row = bus(1, 60);
        row.request(0, 0, 7, 0, 1);
        asking.best("one stop", row, 0, 14, "d0");
    }

    /** No check fails: not if there are as many riders on board as seats. */
    private static void asManyRidersAsSeats() {
        ShuttleRow row = bus(2, 60);
        row.request(4, 0, 8, 0, 1);
        row.request(4, 0, 8, 0, 1);
        before(row, "p1 p0 d1 d0", 16);
        asking.best("two of two seats", row, 0, 16, "p0 p1 d0 d1");
    }

    /** No check fails: but it does if there are more riders on board than seats. */
    private static void moreRidersThanSeats() {
        ShuttleRow row = bus(1, 60);
        row.request(2, 0, 3, 0, 1);
        row.request(1, 0, 5, 0, 1);
        before(row, "p1 d1 p0 d0", 12);
        asking.best("10 needs two seats", row, 0, 12, "p1 d1 p0 d0");
    }

    /** No check fails: not if a pickup is as late as its latest pickup. */
    private static void inTheLastMinuteOfTheWait() {
        ShuttleRow row = bus(2, 60);
        row.setWait(4);
        row.request(4, 0, 8, 0, 1);
        row.request(4, 0, 8, 0, 1);
        before(row, "p1 p0 d1 d0", 16);
        asking.best("both at 4 of 4", row, 0, 16, "p0 p1 d0 d1");
    }

    /** No check fails: but it does if a pickup is later. */
    private static void aMinuteTooLate() {
        ShuttleRow row = bus(3, 60);
        row.request(11, 0, 7, 0, 1);
        row.request(6, 0, 5, 0, 1);
        before(row, "p1 d1 p0 d0", 24);
        asking.best("22 picks up at 16 of 15", row, 0, 24, "p1 d1 p0 d0");
    }

    /** No check fails: not if a ride is as long as its longest ride. */
    private static void theLongestRide() {
        ShuttleRow row = bus(2, 60);
        row.setDetour(0);
        row.request(4, 0, 8, 0, 1);
        row.request(4, 0, 8, 0, 1);
        before(row, "p1 p0 d1 d0", 16);
        asking.best("both ride 4 of 4", row, 0, 16, "p0 p1 d0 d1");
    }

    /** Not if a ride is as long as its longest ride: also of riders who are on board already. */
    private static void theLongestRideOfRidersOnBoard() {
        ShuttleRow row = bus(2, 60);
        row.setDetour(0);
        row.request(0, 0, 4, 0, 1);
        row.request(0, 0, 4, 0, 1);
        row.pass(3);
        before(row, "d1 d0", 5);
        asking.best("both ride 4 of 4", row, 0, 5, "d0 d1");
    }

    /** No check fails: but it does if a ride is longer. */
    private static void longerThanTheLongestRide() {
        ShuttleRow row = bus(2, 60);
        row.request(2, 0, 5, 0, 1);
        row.setWait(4);
        row.request(4, 0, 3, 0, 1);
        before(row, "p1 d1 p0 d0", 14);
        asking.best("12 rides 5 of 4", row, 0, 14, "p1 d1 p0 d0");
    }

    /** But it does if a ride is longer: also of riders who are on board already. */
    private static void longerThanTheLongestRideOfRidersOnBoard() {
        ShuttleRow row = planner();
        row.addBus(3, 60, 2, 0);
        row.request(2, 0, 5, 0, 1);
        row.request(1, 0, 7, 0, 1);
        before(row, "d0 p1 d1", 18);
        asking.best("12 rides 5 of 4", row, 0, 18, "d0 p1 d1");
    }

    /** No check fails: not if the tour is as long as the charge. */
    private static void asLongAsTheCharge() {
        ShuttleRow row = bus(2, 20);
        row.request(4, 0, 10, 0, 1);
        row.request(4, 0, 10, 0, 1);
        before(row, "p1 p0 d1 d0", 20);
        asking.best("20 of 20", row, 0, 20, "p0 p1 d0 d1");
    }

    /** And each pickup comes ahead of its drop. */
    private static void pickupAheadOfItsDrop() {
        ShuttleRow row = bus(1, 60);
        row.request(0, 0, 8, 0, 1);
        row.request(4, 0, 7, 0, 1);
        before(row, "d0 p1 d1", 22);
        asking.best("16 drops 1 ahead of its pickup", row, 0, 22, "d0 p1 d1");
    }

    /** The best order is the possible one with the least length. */
    private static void leastLength() {
        ShuttleRow row = planner();
        row.addBus(2, 63, 1, 0);
        row.setWait(56);
        row.setDetour(115);
        row.request(1, 0, 4, 0, 1);
        row.request(1, 0, 5, 0, 1);
        row.request(3, 0, 8, 0, 1);
        before(row, "d1 d0 p2 d2", 18);
        asking.best("3 between 4 and 5", row, 0, 16, "d0 p2 d1 d2");
    }

    /** The least length of all orders of six stops: 10 and back. */
    private static void leastLengthOfAFullTour() {
        ShuttleRow row = bus(2, 60);
        row.setWait(60);
        row.setDetour(200);
        row.request(2, 0, 6, 0, 1);
        row.request(6, 0, 10, 0, 1);
        row.request(1, 0, 9, 0, 1);
        before(row, "p2 d2 p0 p1 d1 d0", 34);
        asking.best("of six stops", row, 0, 20, "p2 p0 d0 p1 d1 d2");
    }

    /** Of several, the one that has, at the first place where they differ, the stop of the lower request. */
    private static void lowerNumberAtTheFirstPlace() {
        ShuttleRow row = bus(3, 60);
        row.request(5, 0, 4, 0, 1);
        row.request(5, 0, 3, 0, 1);
        before(row, "p1 p0 d0 d1", 10);
        asking.best("the first one", row, 0, 10, "p0 p1 d0 d1");
    }

    /** At the first place where they differ: behind a stop that is the same in all. */
    private static void lowerNumberAtTheFirstPlaceWhereTheyDiffer() {
        ShuttleRow row = bus(2, 60);
        row.request(1, 0, 6, 0, 1);
        row.request(3, 0, 6, 0, 1);
        before(row, "p0 p1 d1 d0", 12);
        asking.best("the third one", row, 0, 12, "p0 p1 d0 d1");
        ShuttleRow three = bus(3, 60);
        three.request(2, 0, 9, 0, 1);
        three.request(4, 0, 9, 0, 1);
        three.request(5, 0, 9, 0, 1);
        before(three, "p0 p1 p2 d2 d1 d0", 18);
        asking.best("the fourth one, and then the fifth", three, 0, 18, "p0 p1 p2 d0 d1 d2");
    }

    /** At the first place where they differ: what is behind it does not count. */
    private static void notTheLastPlaceWhereTheyDiffer() {
        ShuttleRow row = bus(2, 60);
        row.request(0, 0, 4, 0, 1);
        row.request(0, 0, 4, 0, 1);
        before(row, "d1 d0", 8);
        asking.best("the lower one first", row, 0, 8, "d0 d1");
    }

    /** The stop of the request with the lower number, be it a drop or a pickup. */
    private static void lowerNumberBeItADropOrAPickup() {
        ShuttleRow drop = bus(2, 60);
        drop.request(0, 0, 4, 0, 1);
        drop.request(4, 0, 8, 0, 1);
        before(drop, "p1 d0 d1", 16);
        asking.best("a drop ahead of a pickup", drop, 0, 16, "d0 p1 d1");
        ShuttleRow pickup = bus(2, 60);
        pickup.request(4, 0, 8, 0, 1);
        pickup.request(0, 0, 4, 0, 1);
        before(pickup, "d1 p0 d0", 16);
        asking.best("a pickup ahead of a drop", pickup, 0, 16, "p0 d1 d0");
    }

    /** Gives a tour the best order, also if that is as long as the one it has: the times become others. */
    private static void alsoIfAsLong() {
        ShuttleRow row = bus(2, 60);
        row.request(2, 0, 3, 0, 1);
        row.request(3, 0, 2, 0, 1);
        String before = Check.tour(row, 0);
        check.same("22: before", row.length(0), 6);
        check.same("23: as long", row.bestLength(0), 6);
        check.same("24: as long", row.bestLengthByTrying(0), 6);
        check.same("5: told, and not changed", Check.tour(row, 0), before);
        check.same("25: by nothing", row.improve(0), 0);
        check.same("25: the tour", Check.tour(row, 0), "p0 d0 p1 d1");
        check.same("25: by nothing again", row.improve(0), 0);
        check.same("25: the same tour", Check.tour(row, 0), "p0 d0 p1 d1");
    }

    /** The order that the stops have now is always possible: with every check at its last value at once. */
    private static void theOrderNowIsAlwaysPossible() {
        ShuttleRow row = bus(1, 24);
        row.setWait(6);
        row.setDetour(0);
        row.request(6, 0, 12, 0, 1);
        asking.best("seat, wait, ride and charge", row, 0, 24, "p0 d0");
        row.pass(6);
        asking.best("on board", row, 0, 18, "d0");
        row.pass(5);
        asking.best("nearly there", row, 0, 13, "d0");
        row.pass(1);
        asking.best("dropped", row, 0, 12, "");
    }

    /** Gives a tour the best order: that of the bus that is named, and no other one. */
    private static void onlyTheTourOfThatBus() {
        ShuttleRow row = bus(2, 60);
        row.addBus(2, 60, 0, 20);
        for (int r = 0; r < 4; r++) {
            row.request(4, 20 * (r % 2), 8, 20 * (r % 2), 1);
        }
        check.same("5: of bus 0", Check.tour(row, 0), "p2 p0 d2 d0");
        check.same("5: of bus 1", Check.tour(row, 1), "p3 p1 d3 d1");
        asking.best("bus 1", row, 1, 16, "p1 p3 d1 d3");
        check.same("25: bus 0 keeps its order", Check.tour(row, 0), "p2 p0 d2 d0");
        asking.best("bus 0", row, 0, 16, "p0 p2 d0 d2");
        check.same("25: bus 1 keeps its order", Check.tour(row, 1), "p1 p3 d1 d3");
    }
}

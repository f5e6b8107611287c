/**
 * The edges that the document's terms name for the choice among possible plans: each method holds one
 * sentence, which stands above it, in all three quotes and in the request.
 */
public final class ChoiceEdgesTest {
    private static final Check check = new Check("ChoiceEdgesTest");
    private static final Asking asking = new Asking(check);

    public static void main(String[] args) {
        addsNothing();
        addsAsMuchAsThereIs();
        addsAndNotTheLength();
        addsToAWayToTheDepot();
        onlyPossiblePlans();
        lowestBus();
        lowestBusOfFour();
        lowestBusAheadOfTheLeastI();
        leastI();
        leastIAheadOfTheLeastJ();
        leastJ();
        leastJAtTheSamePlaces();
        lessIsEnough();
        check.end();
    }

    private static int[] wish(int... numbers) {
        return numbers;
    }

    /** What a plan adds is the length of its tour minus that of the tour of the bus now: at least 0. */
    private static void addsNothing() {
        ShuttleRow row = new ShuttleRow();
        row.addBus(3, 200, 0, 0);
        row.request(0, 0, 8, 0, 1);
        asking.planned("on the way", row, wish(1, 0, 7, 0, 1), 0, 0, "p1 d1 d0");
        asking.planned("the same way as another", row, wish(1, 0, 7, 0, 1), 0, 0, "p2 p1 d2 d1 d0");
    }

    /** What a plan adds: for a bus at its depot, all of the tour. */
    private static void addsAsMuchAsThereIs() {
        ShuttleRow row = new ShuttleRow();
        row.addBus(1, 200, 0, 0);
        row.setWait(60);
        asking.planned("the farthest", row, wish(20, 20, 0, 0, 1), 80, 0, "p0 d0");
        ShuttleRow near = new ShuttleRow();
        near.addBus(1, 200, 0, 0);
        asking.planned("the nearest", near, wish(0, 0, 0, 1, 1), 2, 0, "d0");
    }

    /** The possible plan that adds the least: though the tour of another bus would be shorter. */
    private static void addsAndNotTheLength() {
        ShuttleRow row = new ShuttleRow();
        row.addBus(2, 200, 5, 4);
        row.addBus(2, 200, 0, 0);
        row.request(0, 0, 16, 0, 1);
        check.same("12: bus 1 has it", row.busOf(0), 1);
        asking.planned("2 to 32, or 8 to 0", row, wish(5, 1, 6, 1, 1), 2, 1, "p1 d1 d0");
    }

    /** Minus that of the tour of the bus now: without stops, the way to the depot. */
    private static void addsToAWayToTheDepot() {
        ShuttleRow row = new ShuttleRow();
        row.addBus(1, 200, 9, 3);
        row.addBus(1, 200, 0, 0);
        row.request(0, 0, 10, 0, 1);
        check.same("12: bus 1 has it", row.busOf(0), 1);
        row.pass(10);
        check.same("18: no stops", row.stops(1), 0);
        asking.planned("on its way home", row, wish(9, 0, 1, 0, 1), 0, 1, "p1 d1");
    }

    /** The possible plan that adds the least: one that adds less, but is not possible, does not count. */
    private static void onlyPossiblePlans() {
        ShuttleRow row = new ShuttleRow();
        row.addBus(1, 200, 2, 0);
        row.addBus(2, 20, 1, 0);
        row.addBus(2, 200, 20, 20);
        row.addBus(2, 200, 0, 0);
        asking.planned("a seat, a charge, a wait too small", row, wish(2, 0, 12, 0, 2), 24, 3, "p0 d0");
    }

    /** Of several, the one with the lowest number of the bus. */
    private static void lowestBus() {
        ShuttleRow row = new ShuttleRow();
        row.addBus(1, 60, 5, 5);
        row.addBus(1, 60, 5, 5);
        asking.planned("both at the same place", row, wish(5, 6, 5, 7, 1), 4, 0, "p0 d0");
        ShuttleRow other = new ShuttleRow();
        other.addBus(1, 60, 9, 0);
        other.addBus(1, 60, 3, 0);
        asking.planned("on both sides", other, wish(6, 0, 6, 1, 1), 8, 0, "p0 d0");
    }

    /** The one with the lowest number of the bus: of those that add the least. */
    private static void lowestBusOfFour() {
        ShuttleRow row = new ShuttleRow();
        row.addBus(1, 60, 9, 9);
        row.addBus(1, 60, 0, 5);
        row.addBus(1, 60, 5, 0);
        row.addBus(1, 60, 5, 0);
        asking.planned("bus 1 of 1, 2 and 3", row, wish(0, 0, 1, 1, 1), 12, 1, "p0 d0");
        ShuttleRow last = new ShuttleRow();
        for (int b = 0; b < 4; b++) {
            last.addBus(1, 60, 9 - b, 0);
        }
        asking.planned("the last one adds the least", last, wish(0, 0, 1, 0, 1), 12, 3, "p0 d0");
    }

    /** The lowest number of the bus, then the least i: not the other way round. */
    private static void lowestBusAheadOfTheLeastI() {
        ShuttleRow row = new ShuttleRow();
        row.addBus(1, 60, 0, 0);
        row.request(4, 0, 8, 0, 1);
        row.addBus(1, 60, 2, 1);
        asking.planned("i 2 of bus 0, i 0 of bus 1", row, wish(2, 1, 1, 1, 1), 2, 0, "p0 d0 p1 d1");
    }

    /** Then the one with the least i. */
    private static void leastI() {
        ShuttleRow row = new ShuttleRow();
        row.addBus(2, 60, 0, 0);
        row.request(4, 0, 8, 0, 1);
        asking.planned("on the way there or back", row, wish(2, 0, 2, 1, 1), 2, 0, "p1 d1 p0 d0");
        ShuttleRow back = new ShuttleRow();
        back.addBus(2, 60, 0, 0);
        back.request(4, 0, 8, 0, 1);
        asking.planned("only on the way back", back, wish(2, 0, 1, 0, 1), 0, 0, "p0 d0 p1 d1");
    }

    /** Then the one with the least i, then with the least j: i 0 with j 2 comes ahead of i 1 with j 1. */
    private static void leastIAheadOfTheLeastJ() {
        ShuttleRow row = new ShuttleRow();
        row.addBus(2, 29, 0, 0);
        row.setDetour(120);
        row.request(3, 5, 4, 2, 1);
        row.setWait(18);
        row.request(0, 0, 3, 4, 1);
        check.same("5: before", Check.tour(row, 0), "d1 p0 d0");
        check.same("22: before", row.length(0), 18);
        asking.planned("22 in both", row, wish(4, 4, 5, 5, 1), 4, 0, "p2 d1 p0 d2 d0");
    }

    /** Then the one with the least j. */
    private static void leastJ() {
        ShuttleRow row = new ShuttleRow();
        row.addBus(2, 60, 0, 0);
        row.request(2, 0, 4, 0, 1);
        asking.planned("ahead of the drop or on the way back", row, wish(1, 0, 3, 0, 1), 0, 0, "p1 p0 d1 d0");
        ShuttleRow same = new ShuttleRow();
        same.addBus(2, 60, 0, 0);
        same.request(2, 0, 4, 0, 1);
        asking.planned("at the drop of the other", same, wish(1, 0, 4, 0, 1), 0, 0, "p1 p0 d1 d0");
    }

    /** Of several, the least i and then the least j: both stops ahead of those at the same places. */
    private static void leastJAtTheSamePlaces() {
        ShuttleRow row = new ShuttleRow();
        row.addBus(3, 60, 0, 0);
        row.request(4, 0, 8, 0, 1);
        asking.planned("the same request", row, wish(4, 0, 8, 0, 1), 0, 0, "p1 p0 d1 d0");
        asking.planned("and once more", row, wish(4, 0, 8, 0, 1), 0, 0, "p2 p1 p0 d2 d1 d0");
    }

    /** The plan that adds the least: 2 less is enough for a higher number of the bus, and for a greater i. */
    private static void lessIsEnough() {
        ShuttleRow row = new ShuttleRow();
        row.addBus(1, 60, 6, 0);
        row.addBus(1, 60, 5, 0);
        asking.planned("a higher number", row, wish(2, 0, 3, 0, 1), 6, 1, "p0 d0");
        ShuttleRow back = new ShuttleRow();
        back.addBus(1, 60, 0, 0);
        back.request(4, 0, 8, 0, 1);
        asking.planned("a place farther behind", back, wish(3, 0, 1, 1, 1), 2, 0, "p0 d0 p1 d1");
    }
}

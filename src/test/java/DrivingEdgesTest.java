/**
 * The edges that the document's terms name for driving and for the journal: each method holds one
 * sentence, which stands above it.
 */
public final class DrivingEdgesTest {
    private static final Check check = new Check("DrivingEdgesTest");

    public static void main(String[] args) {
        madeAfterARequest();
        notMadeIfItIsNotTheFirst();
        madeAfterCancelling();
        theNextOneAfterCancelling();
        madeAfterImproving();
        theNextOneAfterImproving();
        madeWithinAMinute();
        theNextOneWithinAMinute();
        onlyTheNextOne();
        asManyAsThereAre();
        aDropAndAPickupAtTheSamePlace();
        theTimeIncreasesFirst();
        busesInTheOrderOfTheirNumbers();
        minutesAheadOfBuses();
        alongXThenAlongY();
        towardsTheDepotInTheSameWay();
        arrivingIsNotCharging();
        makingStopsAtTheDepotIsNotCharging();
        waitingAtTheDepotForNothing();
        notBeyondTheCapacity();
        increasesByFive();
        emptyIfNobodyIsOnBoard();
        notEmptyWithRidersOnBoard();
        emptyOfABusThatNeverDrove();
        distanceUntilThen();
        numberedFromZero();
        farAndLong();
        leastAndMostMinutes();
        madeByAllBuses();
        meanOfRiders();
        worstRideIsTheGreatest();
        check.end();
    }

    private static ShuttleRow bus(int seats, int capacity, int x, int y) {
        ShuttleRow row = new ShuttleRow();
        row.addBus(seats, capacity, x, y);
        return row;
    }

    private static void entry(ShuttleRow row, int entry, int bus, int request, int time, int distance) {
        check.same("37: entry " + entry, row.entryBus(entry), bus);
        check.same("38: entry " + entry, row.entryRequest(entry), request);
        check.same("39: entry " + entry, row.entryTime(entry), time);
        check.same("40: entry " + entry, row.entryDistance(entry), distance);
    }

    /** Whenever a bus is at the place of the first stop, be it after a call: after a request. */
    private static void madeAfterARequest() {
        ShuttleRow row = bus(3, 60, 0, 0);
        row.request(0, 0, 9, 0, 1);
        check.same("18: made", row.stops(0), 1);
        check.same("10: on board", row.status(0), 'r');
        check.same("31: on board", row.onBoard(0), 1);
        row.pass(3);
        row.request(3, 0, 9, 0, 2);
        check.same("5: made on the way", Check.tour(row, 0), "d1 d0");
        check.same("10: on board too", row.status(1), 'r');
        check.same("15: at the time now", row.pickupTime(1), 3);
        check.same("31: all three", row.onBoard(0), 3);
        check.same("36: two entries", row.entries(), 2);
        entry(row, 0, 0, 0, 0, 0);
        entry(row, 1, 0, 1, 3, 3);
    }

    /** The first stop of its tour: a later one at the same place is not made. */
    private static void notMadeIfItIsNotTheFirst() {
        ShuttleRow row = bus(1, 60, 0, 0);
        row.request(0, 0, 3, 0, 1);
        row.request(0, 0, 3, 0, 1);
        check.same("5: behind the other", Check.tour(row, 0), "d0 p1 d1");
        check.same("10: waits where the bus is", row.status(1), 'w');
        check.same("15: later", row.pickupTime(1), 6);
        check.same("36: one entry", row.entries(), 1);
    }

    /** Be it after a call: after cancelling, what is then the first stop. */
    private static void madeAfterCancelling() {
        ShuttleRow row = behindAnother(1);
        row.request(0, 0, 6, 0, 1);
        check.same("5: before", Check.tour(row, 0), "p0 d0 p1 d1");
        row.cancel(0);
        check.same("9: made", Check.tour(row, 0), "d1");
        check.same("10: on board", row.status(1), 'r');
        check.same("31: on board", row.onBoard(0), 1);
        entry(row, 0, 0, 1, 0, 0);
        check.same("26: only the drop is left", row.pass(6), 1);
    }

    /** And then the next one, if it is at this place, too: after cancelling. */
    private static void theNextOneAfterCancelling() {
        ShuttleRow row = behindAnother(2);
        row.request(0, 0, 6, 0, 1);
        row.request(0, 0, 7, 0, 1);
        check.same("5: before", Check.tour(row, 0), "p0 d0 p2 p1 d2 d1");
        check.same("36: none before", row.entries(), 0);
        row.cancel(0);
        check.same("9: both made", Check.tour(row, 0), "d2 d1");
        check.same("10: on board", row.status(1), 'r');
        check.same("10: on board too", row.status(2), 'r');
        check.same("31: both", row.onBoard(0), 2);
        check.same("36: two entries", row.entries(), 2);
        entry(row, 0, 0, 2, 0, 0);
        entry(row, 1, 0, 1, 0, 0);
    }

    /** A bus at (0,0) that has to be at (2,0) in 2 minutes, for as many riders as it has seats. */
    private static ShuttleRow behindAnother(int seats) {
        ShuttleRow row = bus(seats, 60, 0, 0);
        row.setWait(2);
        row.request(2, 0, 4, 0, seats);
        row.setWait(60);
        return row;
    }

    /** Be it after a call: after improving, what is then the first stop. */
    private static void madeAfterImproving() {
        ShuttleRow row = bus(2, 75, 0, 0);
        row.setWait(21);
        row.setDetour(92);
        row.request(0, 0, 4, 0, 1);
        row.request(4, 0, 1, 0, 1);
        row.request(0, 0, 6, 0, 1);
        check.same("5: before", Check.tour(row, 0), "p1 d0 p2 d1 d2");
        check.same("36: before", row.entries(), 1);
        check.same("25: 20 to 12", row.improve(0), 8);
        check.same("25: made", Check.tour(row, 0), "d0 d2 p1 d1");
        check.same("31: both", row.onBoard(0), 2);
        check.same("36: one more", row.entries(), 2);
        entry(row, 1, 0, 2, 0, 0);
    }

    /** And then the next one, if it is at this place, too: after improving. */
    private static void theNextOneAfterImproving() {
        ShuttleRow row = bus(2, 50, 0, 0);
        row.setDetour(100);
        row.request(3, 0, 5, 0, 1);
        row.setWait(10);
        row.request(6, 0, 3, 0, 1);
        row.pass(4);
        row.setDetour(50);
        row.request(5, 0, 7, 0, 1);
        row.pass(1);
        check.same("28: at (5,0)", row.x(0), 5);
        check.same("5: before", Check.tour(row, 0), "p1 d0 d1 p2 d2");
        check.same("25: 15 to 9", row.improve(0), 6);
        check.same("25: both made", Check.tour(row, 0), "p1 d2 d1");
        check.same("10: dropped", row.status(0), 'd');
        check.same("10: on board", row.status(2), 'r');
        check.same("36: two more", row.entries(), 3);
        entry(row, 1, 0, 0, 5, 5);
        entry(row, 2, 0, 2, 5, 5);
    }

    /** Or within a minute: this stop is made at once and leaves the tour. */
    private static void madeWithinAMinute() {
        ShuttleRow row = bus(2, 60, 0, 0);
        row.request(2, 0, 4, 0, 2);
        check.same("26: on the way", row.pass(1), 0);
        check.same("18: on the way", row.stops(0), 2);
        check.same("26: there", row.pass(1), 1);
        check.same("18: left the tour", row.stops(0), 1);
        check.same("31: on board", row.onBoard(0), 2);
        check.same("26: on the way", row.pass(1), 0);
        check.same("26: there", row.pass(1), 1);
        check.same("18: left the tour", row.stops(0), 0);
        check.same("31: nobody", row.onBoard(0), 0);
        entry(row, 0, 0, 0, 2, 2);
        entry(row, 1, 0, 0, 4, 4);
    }

    /** And then the next one, if it is at this place, too: within a minute. */
    private static void theNextOneWithinAMinute() {
        ShuttleRow row = bus(2, 60, 0, 0);
        row.request(2, 0, 4, 0, 1);
        row.request(2, 0, 4, 0, 1);
        check.same("5: before", Check.tour(row, 0), "p1 p0 d1 d0");
        check.same("26: both pickups", row.pass(2), 2);
        check.same("31: both", row.onBoard(0), 2);
        check.same("26: both drops", row.pass(2), 2);
        check.same("31: nobody", row.onBoard(0), 0);
        entry(row, 0, 0, 1, 2, 2);
        entry(row, 1, 0, 0, 2, 2);
        entry(row, 2, 0, 1, 4, 4);
        entry(row, 3, 0, 0, 4, 4);
    }

    /** Then the next one, if it is at this place: not one behind a stop somewhere else. */
    private static void onlyTheNextOne() {
        ShuttleRow row = bus(1, 60, 0, 0);
        row.request(2, 0, 4, 0, 1);
        row.request(2, 0, 4, 0, 1);
        check.same("5: one behind the other", Check.tour(row, 0), "p1 d1 p0 d0");
        check.same("26: only the first pickup", row.pass(2), 1);
        check.same("10: waits where the bus was", row.status(0), 'w');
        check.same("26: the drop", row.pass(2), 1);
        check.same("26: back for the other", row.pass(2), 1);
        check.same("15: picked up later", row.pickupTime(0), 6);
    }

    /** And then the next one, if it is at this place, too: as many as there are. */
    private static void asManyAsThereAre() {
        ShuttleRow row = bus(3, 60, 0, 0);
        for (int r = 0; r < 3; r++) {
            row.request(1, 0, 2, 0, 1);
        }
        check.same("18: six", row.stops(0), 6);
        check.same("26: three pickups", row.pass(1), 3);
        check.same("31: three", row.onBoard(0), 3);
        check.same("26: three drops", row.pass(1), 3);
        check.same("31: nobody", row.onBoard(0), 0);
        check.same("18: none left", row.stops(0), 0);
        ShuttleRow drops = bus(6, 60, 0, 0);
        for (int r = 0; r < 5; r++) {
            drops.request(0, 0, 5, 0, 1);
        }
        check.same("18: five riders on board", drops.stops(0), 5);
        check.same("26: none yet", drops.pass(4), 0);
        check.same("26: five drops", drops.pass(1), 5);
        check.same("31: nobody", drops.onBoard(0), 0);
    }

    /** The next one, if it is at this place: a drop, and the pickup that it makes room for. */
    private static void aDropAndAPickupAtTheSamePlace() {
        ShuttleRow row = bus(1, 60, 0, 0);
        row.request(1, 0, 4, 0, 1);
        row.request(4, 0, 6, 0, 1);
        check.same("26: on the way", row.pass(3), 1);
        check.same("26: the drop and the pickup", row.pass(1), 2);
        check.same("31: the other one", row.onBoard(0), 1);
        entry(row, 1, 0, 0, 4, 4);
        entry(row, 2, 0, 1, 4, 4);
    }

    /** In each minute the time increases by 1, and then the buses do the following. */
    private static void theTimeIncreasesFirst() {
        ShuttleRow row = bus(1, 60, 0, 0);
        row.request(1, 0, 2, 0, 1);
        check.same("15: planned", row.pickupTime(0), 1);
        row.pass(1);
        check.same("39: the new time", row.entryTime(0), 1);
        check.same("15: the new time", row.pickupTime(0), 1);
        row.pass(1);
        check.same("39: the new time", row.entryTime(1), 2);
        check.same("16: the new time", row.dropTime(0), 2);
    }

    /** In the order of their numbers: each bus with all its stops of the minute, though the other was asked first. */
    private static void busesInTheOrderOfTheirNumbers() {
        ShuttleRow row = new ShuttleRow();
        for (int b = 0; b < 4; b++) {
            row.addBus(2, 60, 0, 5 * b);
        }
        for (int b = 3; b >= 0; b--) {
            row.request(2, 5 * b, 4, 5 * b, 1);
            row.request(2, 5 * b, 4, 5 * b, 1);
        }
        check.same("26: two of each bus", row.pass(2), 8);
        int[] requests = {7, 6, 5, 4, 3, 2, 1, 0};
        for (int e = 0; e < 8; e++) {
            entry(row, e, e / 2, requests[e], 2, 2);
        }
    }

    /** In each minute the buses, in the order of their numbers: an earlier minute comes first, whichever bus it is. */
    private static void minutesAheadOfBuses() {
        ShuttleRow row = new ShuttleRow();
        row.addBus(1, 60, 0, 0);
        row.addBus(1, 60, 0, 10);
        row.request(3, 0, 6, 0, 1);
        row.request(1, 10, 4, 10, 1);
        check.same("26: all four", row.pass(6), 4);
        entry(row, 0, 1, 1, 1, 1);
        entry(row, 1, 0, 0, 3, 3);
        entry(row, 2, 1, 1, 4, 4);
        entry(row, 3, 0, 0, 6, 6);
    }

    /** Towards the first one, along x as long as the coordinates x differ, and then along y. */
    private static void alongXThenAlongY() {
        int[][] signs = {{1, 1}, {1, -1}, {-1, 1}, {-1, -1}};
        for (int[] sign : signs) {
            ShuttleRow row = bus(1, 60, 10, 10);
            row.request(10 + 2 * sign[0], 10 + 2 * sign[1], 10 + 2 * sign[0], 10 + 3 * sign[1], 1);
            int[][] due = {{1, 0}, {2, 0}, {2, 1}, {2, 2}, {2, 3}};
            for (int[] step : due) {
                row.pass(1);
                check.same("28: there at " + row.now(), row.x(0), 10 + step[0] * sign[0]);
                check.same("29: there at " + row.now(), row.y(0), 10 + step[1] * sign[1]);
            }
        }
    }

    /** A bus without stops that is not at its depot drives towards it in the same way. */
    private static void towardsTheDepotInTheSameWay() {
        int[][] signs = {{1, 1}, {1, -1}, {-1, 1}, {-1, -1}};
        for (int[] sign : signs) {
            ShuttleRow row = bus(1, 60, 10, 10);
            row.request(10, 10 + sign[1], 10 + 2 * sign[0], 10 + 2 * sign[1], 1);
            row.pass(4);
            check.same("18: dropped", row.stops(0), 0);
            int[][] due = {{1, 2}, {0, 2}, {0, 1}, {0, 0}, {0, 0}};
            for (int[] step : due) {
                row.pass(1);
                check.same("28: back at " + row.now(), row.x(0), 10 + step[0] * sign[0]);
                check.same("29: back at " + row.now(), row.y(0), 10 + step[1] * sign[1]);
            }
        }
    }

    /** A bus does just one of these in a minute: the one in which it arrives it does not charge. */
    private static void arrivingIsNotCharging() {
        ShuttleRow row = bus(1, 60, 0, 0);
        row.request(0, 0, 6, 0, 1);
        row.pass(11);
        check.same("28: nearly there", row.x(0), 1);
        check.same("30: 11 driven", row.charge(0), 49);
        row.pass(1);
        check.same("28: there", row.x(0), 0);
        check.same("30: 12 driven", row.charge(0), 48);
        row.pass(1);
        check.same("30: charges", row.charge(0), 53);
        check.same("32: does not drive", row.driven(0), 12);
    }

    /** Just one of these in a minute: nor does it charge when it makes a stop at its depot, the last one or not. */
    private static void makingStopsAtTheDepotIsNotCharging() {
        ShuttleRow row = bus(1, 60, 0, 0);
        row.request(6, 0, 0, 0, 1);
        row.pass(12);
        check.same("10: dropped at the depot", row.status(0), 'd');
        check.same("30: 12 driven", row.charge(0), 48);
        row.pass(1);
        check.same("30: charges", row.charge(0), 53);
        row.request(0, 0, 2, 0, 1);
        check.same("30: a stop takes nothing and gives nothing", row.charge(0), 53);
        row.pass(1);
        check.same("30: drives", row.charge(0), 52);
        ShuttleRow more = bus(1, 60, 0, 0);
        more.request(3, 0, 0, 0, 1);
        more.request(0, 0, 0, 3, 1);
        check.same("5: before", Check.tour(more, 0), "d1 p0 d0");
        more.pass(3);
        more.request(0, 0, 0, 4, 1);
        check.same("5: over the depot", Check.tour(more, 0), "p0 d0 p2 d2");
        more.pass(9);
        check.same("30: at the depot, with stops", more.charge(0), 48);
        more.pass(1);
        check.same("30: drives on", more.charge(0), 47);
    }

    /** A bus without stops at its depot charges: that is not driving, and makes no stop. */
    private static void waitingAtTheDepotForNothing() {
        ShuttleRow row = bus(1, 60, 7, 7);
        check.same("26: nothing", row.pass(60), 0);
        check.same("28: stays", row.x(0), 7);
        check.same("29: stays", row.y(0), 7);
        check.same("30: full", row.charge(0), 60);
        check.same("32: has not driven", row.driven(0), 0);
        check.same("33: has not driven", row.empty(0), 0);
        check.same("34: has not driven", row.emptyByJournal(0), 0);
        check.same("36: none", row.entries(), 0);
    }

    /** Its charge increases by 5, but not beyond the capacity: 4, 5 and 6 below it. */
    private static void notBeyondTheCapacity() {
        charging(2, 4, new int[] {0, 0});
        charging(3, 6, new int[] {1, 0, 0});
        charging(5, 10, new int[] {5, 0, 0});
        charging(1, 2, new int[] {0, 0});
    }

    /** A ride as far as that, and what is then missing to the capacity, at first and after each minute. */
    private static void charging(int far, int missing, int[] due) {
        for (int capacity : new int[] {20, 41, 200}) {
            ShuttleRow row = bus(1, capacity, 0, 0);
            row.request(0, 0, far, 0, 1);
            row.pass(2 * far);
            check.same("30: back", capacity - row.charge(0), missing);
            for (int left : due) {
                row.pass(1);
                check.same("30: charges at " + row.now(), capacity - row.charge(0), left);
            }
        }
    }

    /** Its charge increases by 5: in each minute, also if several pass in one call. */
    private static void increasesByFive() {
        ShuttleRow row = bus(1, 200, 0, 0);
        row.request(0, 0, 20, 20, 1);
        row.pass(60);
        row.pass(20);
        check.same("30: 80 driven", row.charge(0), 120);
        row.pass(1);
        check.same("30: 5 more", row.charge(0), 125);
        row.pass(10);
        check.same("30: 50 more", row.charge(0), 175);
        row.pass(4);
        check.same("30: 20 more", row.charge(0), 195);
        row.pass(2);
        check.same("30: full", row.charge(0), 200);
    }

    /** Each distance that is driven, be it to a pickup or to the depot, is empty if nobody is on board. */
    private static void emptyIfNobodyIsOnBoard() {
        ShuttleRow row = bus(2, 60, 0, 0);
        row.request(2, 0, 4, 0, 1);
        row.request(3, 0, 5, 0, 1);
        int[] due = {1, 2, 2, 2, 2, 3, 4, 5, 6, 7, 7};
        for (int empty : due) {
            row.pass(1);
            check.same("33: at " + row.now(), row.empty(0), empty);
            check.same("34: at " + row.now(), row.emptyByJournal(0), empty);
        }
        check.same("32: 10 in all", row.driven(0), 10);
        row.request(0, 0, 1, 0, 2);
        row.pass(1);
        check.same("33: with riders from the first", row.empty(0), 7);
        check.same("34: with riders from the first", row.emptyByJournal(0), 7);
        row.pass(1);
        check.same("33: to the depot", row.empty(0), 8);
        check.same("34: to the depot", row.emptyByJournal(0), 8);
    }

    /** Empty if nobody is on board: not behind a pickup, as long as its riders are not dropped. */
    private static void notEmptyWithRidersOnBoard() {
        ShuttleRow row = bus(3, 60, 0, 0);
        row.request(1, 0, 9, 0, 1);
        row.request(3, 0, 6, 0, 2);
        int[] due = {1, 1, 1, 1, 1, 1, 1, 1, 1, 2, 3};
        for (int empty : due) {
            row.pass(1);
            check.same("33: at " + row.now(), row.empty(0), empty);
            check.same("34: at " + row.now(), row.emptyByJournal(0), empty);
        }
    }

    /** The empty distance of a bus, and not that of another one: 0 if it never drove. */
    private static void emptyOfABusThatNeverDrove() {
        ShuttleRow row = bus(2, 60, 0, 0);
        row.addBus(2, 60, 20, 20);
        row.request(2, 0, 4, 0, 1);
        row.pass(10);
        check.same("33: bus 0", row.empty(0), 6);
        check.same("34: bus 0", row.emptyByJournal(0), 6);
        check.same("33: bus 1", row.empty(1), 0);
        check.same("34: bus 1", row.emptyByJournal(1), 0);
    }

    /** The distance that the bus had driven until then: its own, and nothing of what it drives later. */
    private static void distanceUntilThen() {
        ShuttleRow row = bus(2, 60, 0, 0);
        row.pass(9);
        row.request(0, 0, 3, 0, 1);
        row.pass(30);
        row.request(0, 1, 0, 2, 1);
        row.addBus(1, 60, 0, 5);
        row.request(0, 5, 0, 6, 1);
        row.pass(2);
        entry(row, 0, 0, 0, 9, 0);
        entry(row, 1, 0, 0, 12, 3);
        entry(row, 2, 1, 2, 39, 0);
        entry(row, 3, 0, 1, 40, 7);
        entry(row, 4, 1, 2, 40, 1);
        entry(row, 5, 0, 1, 41, 8);
        row.pass(60);
        entry(row, 5, 0, 1, 41, 8);
    }

    /** Entries are numbered from 0: the last one is entries() - 1. */
    private static void numberedFromZero() {
        ShuttleRow row = bus(2, 60, 0, 0);
        check.same("36: none", row.entries(), 0);
        check.throwing("37: none", IndexOutOfBoundsException.class, () -> row.entryBus(0));
        row.request(0, 0, 3, 0, 1);
        check.same("36: one", row.entries(), 1);
        check.same("38: the first", row.entryRequest(0), 0);
        check.throwing("37: no second", IndexOutOfBoundsException.class, () -> row.entryBus(1));
        row.cancel(row.request(9, 0, 8, 0, 1));
        row.request(1, 0, 2, 0, 3);
        check.same("36: neither cancelled nor refused ones", row.entries(), 1);
        row.pass(3);
        check.same("36: two", row.entries(), 2);
        check.same("39: the second", row.entryTime(1), 3);
    }

    /** What is counted goes on, however far and long a bus drives. */
    private static void farAndLong() {
        ShuttleRow row = bus(6, 200, 0, 0);
        row.setWait(60);
        for (int round = 0; round < 6; round++) {
            row.request(20, 20, 0, 0, 1 + round);
            check.same("26: there and back", row.pass(60) + row.pass(40), 2);
            entry(row, 2 * round, 0, round, 100 * round + 40, 80 * round + 40);
            entry(row, 2 * round + 1, 0, round, 100 * round + 80, 80 * round + 80);
        }
        check.same("27: 600", row.now(), 600);
        check.same("30: charged again", row.charge(0), 200);
        check.same("32: six times 80", row.driven(0), 480);
        check.same("33: half of it", row.empty(0), 240);
        check.same("34: half of it", row.emptyByJournal(0), 240);
        check.same("35: 40 with each of 1 to 6", row.occupancy(0), 40f * 21f / 480f);
        check.same("36: twelve", row.entries(), 12);
        check.same("15: the first one's", row.pickupTime(0), 40);
        check.same("16: the last one's", row.dropTime(5), 580);
        check.same("41: all direct", row.worstRide(), 0);
    }

    /** The number of minutes is between 1 and 60. */
    private static void leastAndMostMinutes() {
        ShuttleRow row = bus(1, 200, 0, 0);
        row.request(0, 0, 20, 20, 1);
        check.throwing("26: 0", IllegalArgumentException.class, () -> row.pass(0));
        check.throwing("26: 61", IllegalArgumentException.class, () -> row.pass(61));
        check.same("27: nothing changed", row.now(), 0);
        check.same("32: nothing changed", row.driven(0), 0);
        check.same("26: 1", row.pass(1), 0);
        check.same("32: 1", row.driven(0), 1);
        check.same("26: 60", row.pass(60), 1);
        check.same("27: 61", row.now(), 61);
        check.same("32: 61", row.driven(0), 61);
    }

    /** Returns the number of stops that were made: within the minutes, by all buses, and not those made at a call. */
    private static void madeByAllBuses() {
        ShuttleRow row = bus(1, 60, 0, 0);
        row.addBus(1, 60, 20, 20);
        row.request(0, 0, 3, 0, 1);
        row.request(20, 19, 20, 18, 1);
        check.same("36: one at the call", row.entries(), 1);
        check.same("26: the three others", row.pass(3), 3);
        check.same("26: none are left", row.pass(60), 0);
    }

    /** The sum of the distances that each rider was driven, until now, divided by the one that the bus has driven. */
    private static void meanOfRiders() {
        ShuttleRow row = bus(6, 60, 0, 0);
        row.addBus(6, 60, 9, 9);
        check.throwing("35: has not driven", java.util.NoSuchElementException.class, () -> row.occupancy(0));
        row.request(0, 0, 3, 0, 6);
        check.throwing("35: with riders on board", java.util.NoSuchElementException.class, () -> row.occupancy(0));
        row.pass(1);
        check.same("35: all of the first distance", row.occupancy(0), 6f);
        row.pass(3);
        check.same("35: three with six, one with nobody", row.occupancy(0), 18f / 4f);
        row.pass(2);
        check.same("35: at the depot", row.occupancy(0), 18f / 6f);
        row.request(0, 1, 0, 2, 1);
        row.pass(1);
        check.same("35: one more with nobody", row.occupancy(0), 18f / 7f);
        row.pass(1);
        check.same("35: one more with one", row.occupancy(0), 19f / 8f);
        check.throwing("35: nor has bus 1", java.util.NoSuchElementException.class, () -> row.occupancy(1));
    }

    /** The greatest one of the differences of ride and direct ride, over all requests whose riders were dropped. */
    private static void worstRideIsTheGreatest() {
        ShuttleRow row = bus(3, 200, 0, 0);
        check.throwing("41: no request", java.util.NoSuchElementException.class, () -> row.worstRide());
        row.request(0, 0, 10, 0, 1);
        row.request(2, 1, 4, 1, 1);
        row.request(6, 1, 8, 1, 1);
        check.same("5: two detours", Check.tour(row, 0), "p1 d1 p2 d2 d0");
        row.pass(4);
        check.throwing("41: only on board", java.util.NoSuchElementException.class, () -> row.worstRide());
        row.pass(1);
        check.same("41: the direct one", row.worstRide(), 0);
        row.pass(6);
        check.same("41: 12 of 10 are not yet driven", row.worstRide(), 0);
        row.pass(1);
        check.same("41: 12 instead of 10", row.worstRide(), 2);
        row.request(10, 0, 9, 0, 1);
        row.pass(1);
        check.same("41: a later one that is direct", row.worstRide(), 2);
        ShuttleRow later = bus(3, 200, 0, 0);
        later.request(0, 0, 3, 0, 1);
        later.pass(3);
        check.same("41: the first one, direct", later.worstRide(), 0);
        later.request(3, 0, 13, 0, 1);
        later.request(5, 1, 7, 1, 1);
        later.pass(20);
        check.same("41: the second one, 12 instead of 10", later.worstRide(), 2);
    }
}

import java.util.NoSuchElementException;

/**
 * The exceptions of each promise in their order, at the last value that is taken and at the first one
 * that is not. "A method that throws an exception changes nothing": all that the planner shows is the same
 * before and after. "If several exceptions apply, the one that is listed first is thrown."
 */
public final class ExceptionEdgesTest {
    private static final Class<IllegalArgumentException> ARGUMENT = IllegalArgumentException.class;
    private static final Class<IllegalStateException> STATE = IllegalStateException.class;
    private static final Class<IndexOutOfBoundsException> INDEX = IndexOutOfBoundsException.class;
    private static final Class<NoSuchElementException> MISSING = NoSuchElementException.class;
    private static final Class<UnsupportedOperationException> UNSUPPORTED = UnsupportedOperationException.class;
    private static final int LEAST = Integer.MIN_VALUE;
    private static final int MOST = Integer.MAX_VALUE;

    private static final Check check = new Check("ExceptionEdgesTest");

    public static void main(String[] args) {
        setDetour();
        setWait();
        addBus();
        addBusToFour();
        coordinatesOfARequest();
        ridersOfARequest();
        placesOfARequest();
        requestToThirty();
        quotes();
        quotesThatWouldBeRefused();
        cancel();
        reason();
        busOf();
        pickupTimeAndDropTime();
        noSuchRequest();
        noSuchBus();
        noSuchStop();
        noSuchBusAheadOfNoSuchStop();
        pass();
        occupancy();
        noSuchEntry();
        worstRide();
        check.end();
    }

    /**
     * Two buses at the time 4: bus 0 has request 0 on board and 1 waiting, 2 was cancelled, 3 refused, and
     * bus 1 has dropped 4.
     */
    private static ShuttleRow busy() {
        ShuttleRow row = new ShuttleRow();
        row.addBus(2, 60, 0, 0);
        row.addBus(3, 80, 20, 20);
        row.setDetour(60);
        row.setWait(20);
        row.request(2, 0, 9, 0, 1);
        row.request(6, 0, 8, 0, 1);
        row.request(3, 0, 5, 0, 1);
        row.cancel(2);
        row.request(1, 0, 3, 0, 3);
        row.request(20, 20, 20, 18, 2);
        row.pass(4);
        return row;
    }

    private static ShuttleRow withBuses(int buses) {
        ShuttleRow row = new ShuttleRow();
        for (int b = 0; b < buses; b++) {
            row.addBus(2, 60, 5 * b, 5);
        }
        return row;
    }

    /** Each of the calls throws, and none changes anything. */
    private static void throwing(String what, Class<? extends Throwable> due, ShuttleRow row, int buses,
            Check.Call... calls) {
        String before = Check.all(row, buses);
        for (int k = 0; k < calls.length; k++) {
            check.throwing(what + ", call " + k, due, calls[k]);
        }
        check.same(what + ": nothing changed", Check.all(row, buses), before);
    }

    /** IllegalArgumentException if it is not between 0 and 200. */
    private static void setDetour() {
        ShuttleRow row = busy();
        throwing("2", ARGUMENT, row, 2, () -> row.setDetour(-1), () -> row.setDetour(201), () -> row.setDetour(LEAST),
                () -> row.setDetour(MOST));
        check.same("2: 0 is taken", row.setDetour(0), 60);
        check.same("2: 1 is taken", row.setDetour(1), 0);
        check.same("2: 200 is taken", row.setDetour(200), 1);
        check.same("2: 199 is taken", row.setDetour(199), 200);
    }

    /** IllegalArgumentException if it is not between 0 and 60. */
    private static void setWait() {
        ShuttleRow row = busy();
        throwing("3", ARGUMENT, row, 2, () -> row.setWait(-1), () -> row.setWait(61), () -> row.setWait(LEAST),
                () -> row.setWait(MOST));
        check.same("3: 0 is taken", row.setWait(0), 20);
        check.same("3: 1 is taken", row.setWait(1), 0);
        check.same("3: 60 is taken", row.setWait(60), 1);
        check.same("3: 59 is taken", row.setWait(59), 60);
    }

    /** If the seats are not between 1 and 6, the capacity is not from 20 to 200, or a coordinate not from 0 to 20. */
    private static void addBus() {
        ShuttleRow row = busy();
        throwing("4: the seats or the capacity", ARGUMENT, row, 2, () -> row.addBus(0, 60, 5, 5),
                () -> row.addBus(7, 60, 5, 5), () -> row.addBus(LEAST, 60, 5, 5), () -> row.addBus(MOST, 60, 5, 5),
                () -> row.addBus(2, 19, 5, 5), () -> row.addBus(2, 201, 5, 5), () -> row.addBus(2, LEAST, 5, 5),
                () -> row.addBus(2, MOST, 5, 5), () -> row.addBus(2, 0, 5, 5));
        throwing("4: a coordinate", ARGUMENT, row, 2, () -> row.addBus(2, 60, -1, 5), () -> row.addBus(2, 60, 21, 5),
                () -> row.addBus(2, 60, 5, -1), () -> row.addBus(2, 60, 5, 21), () -> row.addBus(2, 60, LEAST, 5),
                () -> row.addBus(2, 60, 5, MOST));
        for (int[] bus : new int[][] {{1, 20, 0, 0}, {6, 200, 20, 20}, {1, 200, 0, 20}, {6, 20, 20, 0}}) {
            ShuttleRow other = busy();
            check.same("4: the last values are taken", other.addBus(bus[0], bus[1], bus[2], bus[3]), 2);
        }
    }

    /** Then IllegalStateException if there are 4 buses: the arguments come first. */
    private static void addBusToFour() {
        ShuttleRow row = withBuses(4);
        throwing("4: four buses", STATE, row, 4, () -> row.addBus(1, 20, 0, 0), () -> row.addBus(6, 200, 20, 20));
        throwing("4: four buses and a wrong one", ARGUMENT, row, 4, () -> row.addBus(0, 60, 5, 5),
                () -> row.addBus(7, 60, 5, 5), () -> row.addBus(2, 19, 5, 5), () -> row.addBus(2, 201, 5, 5),
                () -> row.addBus(2, 60, -1, 5), () -> row.addBus(2, 60, 5, 21));
    }

    /** IllegalArgumentException if a coordinate is not between 0 and 20. */
    private static void coordinatesOfARequest() {
        ShuttleRow row = busy();
        throwing("5: a coordinate", ARGUMENT, row, 2, () -> row.request(-1, 5, 6, 7, 1),
                () -> row.request(21, 5, 6, 7, 1), () -> row.request(5, -1, 6, 7, 1), () -> row.request(5, 21, 6, 7, 1),
                () -> row.request(5, 6, -1, 7, 1), () -> row.request(5, 6, 21, 7, 1), () -> row.request(5, 6, 7, -1, 1),
                () -> row.request(5, 6, 7, 21, 1), () -> row.request(LEAST, 6, 7, 8, 1),
                () -> row.request(5, 6, 7, MOST, 1));
    }

    /** Or the riders are not between 1 and 6. */
    private static void ridersOfARequest() {
        ShuttleRow row = busy();
        throwing("5: the riders", ARGUMENT, row, 2, () -> row.request(5, 6, 7, 8, 0), () -> row.request(5, 6, 7, 8, 7),
                () -> row.request(5, 6, 7, 8, -1), () -> row.request(5, 6, 7, 8, LEAST),
                () -> row.request(5, 6, 7, 8, MOST));
        check.same("5: the least riders are taken", row.request(20, 19, 20, 18, 1), 5);
        check.same("5: the most riders are taken", row.request(20, 19, 20, 18, 6), 6);
    }

    /** Then UnsupportedOperationException if both places are the same. */
    private static void placesOfARequest() {
        ShuttleRow row = busy();
        throwing("5: both places", UNSUPPORTED, row, 2, () -> row.request(4, 0, 4, 0, 1),
                () -> row.request(0, 0, 0, 0, 6), () -> row.request(20, 20, 20, 20, 1));
        throwing("5: both places, beyond the edge or with wrong riders", ARGUMENT, row, 2,
                () -> row.request(21, 3, 21, 3, 1), () -> row.request(3, -1, 3, -1, 1),
                () -> row.request(3, 3, 3, 3, 0), () -> row.request(3, 3, 3, 3, 7));
    }

    /** Then IllegalStateException if there are 30 requests: the arguments come first, then both places. */
    private static void requestToThirty() {
        ShuttleRow row = new ShuttleRow();
        for (int r = 0; r < 30; r++) {
            check.same("5: fewer than 30", row.request(1, 2, 3, 4, 6), r);
        }
        String before = Check.all(row, 0);
        check.throwing("5: thirty", STATE, () -> row.request(1, 2, 3, 4, 1));
        check.throwing("5: thirty and a coordinate", ARGUMENT, () -> row.request(1, 21, 3, 4, 1));
        check.throwing("5: thirty and the riders", ARGUMENT, () -> row.request(1, 2, 3, 4, 7));
        check.throwing("5: thirty and both places", UNSUPPORTED, () -> row.request(1, 2, 1, 2, 1));
        check.throwing("5: all three", ARGUMENT, () -> row.request(1, 2, 1, 2, 0));
        check.same("5: nothing changed", Check.all(row, 0), before);
    }

    /** The coordinates and the riders, then both places: of each quote. */
    private static void quotes() {
        ShuttleRow row = busy();
        for (int place = 0; place < 5; place++) {
            for (int beyond : new int[] {-1, place == 4 ? 7 : 21, LEAST, MOST}) {
                int[] r = {5, 6, 7, 8, 1};
                r[place] = beyond;
                quoting("number " + place + " is " + beyond, ARGUMENT, row, r);
            }
        }
        quoting("no riders", ARGUMENT, row, new int[] {5, 6, 7, 8, 0});
        quoting("both places", UNSUPPORTED, row, new int[] {4, 0, 4, 0, 1});
        quoting("both places beyond the edge", ARGUMENT, row, new int[] {21, 3, 21, 3, 1});
        quoting("both places, and the riders", ARGUMENT, row, new int[] {3, 3, 3, 3, 7});
    }

    /** Then NoSuchElementException if it would be refused: the arguments come first, then both places. */
    private static void quotesThatWouldBeRefused() {
        ShuttleRow none = new ShuttleRow();
        quoting("no bus", MISSING, none, new int[] {5, 6, 7, 8, 1});
        quoting("no bus, and both places", UNSUPPORTED, none, new int[] {5, 6, 5, 6, 1});
        quoting("no bus, and the riders", ARGUMENT, none, new int[] {5, 6, 7, 8, 0});
        quoting("no bus, and all of it", ARGUMENT, none, new int[] {5, 6, 5, 6, 7});
        ShuttleRow row = busy();
        String before = Check.all(row, 2);
        quoting("the seats", MISSING, row, new int[] {4, 0, 8, 0, 4});
        quoting("the wait", MISSING, row, new int[] {0, 19, 0, 18, 3});
        quoting("more riders than seats, and both places", UNSUPPORTED, row, new int[] {4, 0, 4, 0, 6});
        check.same("6, 7, 8: nothing changed", Check.all(row, 2), before);
        check.same("6: what is not refused", row.quote(4, 0, 5, 0, 1), 0);
        check.same("7: what is not refused", row.quoteByTrying(4, 0, 5, 0, 1), 0);
        check.same("8: what is not refused", row.quotedBus(4, 0, 5, 0, 1), 0);
        check.same("6, 7, 8: nothing is made or kept", Check.all(row, 2), before);
    }

    private static void quoting(String what, Class<? extends Throwable> due, ShuttleRow row, int[] r) {
        check.throwing("6: " + what, due, () -> row.quote(r[0], r[1], r[2], r[3], r[4]));
        check.throwing("7: " + what, due, () -> row.quoteByTrying(r[0], r[1], r[2], r[3], r[4]));
        check.throwing("8: " + what, due, () -> row.quotedBus(r[0], r[1], r[2], r[3], r[4]));
    }

    /** IllegalStateException if it does not wait: on board, cancelled, refused or dropped. */
    private static void cancel() {
        ShuttleRow row = busy();
        String all = "";
        for (int number = 0; number < 5; number++) {
            all += row.status(number);
        }
        check.same("10: as they are", all, "rwcxd");
        throwing("9: r, c, x, d", STATE, row, 2, () -> row.cancel(0), () -> row.cancel(2), () -> row.cancel(3),
                () -> row.cancel(4));
        check.same("9: one that waits", row.cancel(1), 0);
        check.same("9: its stops leave the tour", Check.tour(row, 0), "d0");
        check.same("10: cancelled", row.status(1), 'c');
        throwing("9: again", STATE, row, 2, () -> row.cancel(1));
    }

    /** IllegalStateException if it was not refused. */
    private static void reason() {
        ShuttleRow row = busy();
        throwing("11: r, w, c, d", STATE, row, 2, () -> row.reason(0), () -> row.reason(1), () -> row.reason(2),
                () -> row.reason(4));
        check.same("11: refused", row.reason(3), 'w');
    }

    /** IllegalStateException if it was refused; else the bus, be it cancelled or not. */
    private static void busOf() {
        ShuttleRow row = busy();
        throwing("12: refused", STATE, row, 2, () -> row.busOf(3));
        check.same("12: on board", row.busOf(0), 0);
        check.same("12: waits", row.busOf(1), 0);
        check.same("12: cancelled", row.busOf(2), 0);
        check.same("12: dropped", row.busOf(4), 1);
    }

    /** IllegalStateException if it was refused or cancelled; else when it was, or will be by the tour now. */
    private static void pickupTimeAndDropTime() {
        ShuttleRow row = busy();
        throwing("15: cancelled, refused", STATE, row, 2, () -> row.pickupTime(2), () -> row.pickupTime(3));
        throwing("16: cancelled, refused", STATE, row, 2, () -> row.dropTime(2), () -> row.dropTime(3));
        check.same("15: was", row.pickupTime(0), 2);
        check.same("16: will be", row.dropTime(0), 9);
        check.same("15: will be", row.pickupTime(1), 6);
        check.same("16: will be, both", row.dropTime(1), 8);
        check.same("15: was, both", row.pickupTime(4), 0);
        check.same("16: was", row.dropTime(4), 2);
        row.request(4, 1, 5, 1, 1);
        check.same("5: on the way", Check.tour(row, 0), "p5 d5 p1 d1 d0");
        check.same("15: was, and stays", row.pickupTime(0), 2);
        check.same("16: will be by the tour now", row.dropTime(0), 11);
        check.same("15: will be by the tour now", row.pickupTime(1), 8);
        row.cancel(5);
        check.same("15: as before", row.pickupTime(1), 6);
        check.same("16: as before", row.dropTime(0), 9);
    }

    /** IndexOutOfBoundsException if there is no such request: below 0, and from the number of requests on. */
    private static void noSuchRequest() {
        ShuttleRow none = withBuses(1);
        ShuttleRow row = busy();
        ShuttleRow refused = new ShuttleRow();
        for (int r = 0; r < 30; r++) {
            refused.request(1, 2, 3, 4, 1);
        }
        for (int number : new int[] {-1, 0, 30, LEAST, MOST}) {
            ofRequest("none, " + number, none, number);
        }
        String before = Check.all(row, 2);
        for (int number : new int[] {-1, 5, 6, 30, LEAST, MOST}) {
            ofRequest("five, " + number, row, number);
        }
        check.same("9 to 16: nothing changed", Check.all(row, 2), before);
        for (int number : new int[] {-1, 30, 31, LEAST, MOST}) {
            ofRequest("thirty, " + number, refused, number);
        }
        check.same("10: the last of five", row.status(4), 'd');
        check.same("13: the last of five", row.latestPickup(4), 20);
        check.same("14: the last of five", row.longestRide(4), 3);
        check.same("10: the last of thirty", refused.status(29), 'x');
        check.same("11: the last of thirty", refused.reason(29), 's');
        check.same("13: the last of thirty", refused.latestPickup(29), 15);
        check.same("14: the last of thirty", refused.longestRide(29), 6);
    }

    private static void ofRequest(String what, ShuttleRow row, int number) {
        check.throwing("9: " + what, INDEX, () -> row.cancel(number));
        check.throwing("10: " + what, INDEX, () -> row.status(number));
        check.throwing("11: " + what, INDEX, () -> row.reason(number));
        check.throwing("12: " + what, INDEX, () -> row.busOf(number));
        check.throwing("13: " + what, INDEX, () -> row.latestPickup(number));
        check.throwing("14: " + what, INDEX, () -> row.longestRide(number));
        check.throwing("15: " + what, INDEX, () -> row.pickupTime(number));
        check.throwing("16: " + what, INDEX, () -> row.dropTime(number));
    }

    /** IndexOutOfBoundsException if there is no such bus: below 0, and from the number of buses on. */
    private static void noSuchBus() {
        for (int buses = 0; buses <= 4; buses++) {
            ShuttleRow row = withBuses(buses);
            String before = Check.all(row, buses);
            for (int bus : new int[] {-1, buses, 4, LEAST, MOST}) {
                ofBus(bus + " of " + buses, row, bus);
            }
            check.same("18 to 35: nothing changed", Check.all(row, buses), before);
            if (buses > 0) {
                check.same("28: the last one", row.x(buses - 1), 5 * (buses - 1));
                check.same("30: the last one", row.charge(buses - 1), 60);
                check.same("25: the last one", row.improve(buses - 1), 0);
            }
        }
    }

    private static void ofBus(String what, ShuttleRow row, int bus) {
        check.throwing("18: " + what, INDEX, () -> row.stops(bus));
        check.throwing("19: " + what, INDEX, () -> row.stopRequest(bus, 0));
        check.throwing("20: " + what, INDEX, () -> row.isPickup(bus, 0));
        check.throwing("21: " + what, INDEX, () -> row.stopTime(bus, 0));
        check.throwing("22: " + what, INDEX, () -> row.length(bus));
        check.throwing("23: " + what, INDEX, () -> row.bestLength(bus));
        check.throwing("24: " + what, INDEX, () -> row.bestLengthByTrying(bus));
        check.throwing("25: " + what, INDEX, () -> row.improve(bus));
        check.throwing("28: " + what, INDEX, () -> row.x(bus));
        check.throwing("29: " + what, INDEX, () -> row.y(bus));
        check.throwing("30: " + what, INDEX, () -> row.charge(bus));
        check.throwing("31: " + what, INDEX, () -> row.onBoard(bus));
        check.throwing("32: " + what, INDEX, () -> row.driven(bus));
        check.throwing("33: " + what, INDEX, () -> row.empty(bus));
        check.throwing("34: " + what, INDEX, () -> row.emptyByJournal(bus));
        check.throwing("35: " + what, INDEX, () -> row.occupancy(bus));
    }

    /** NoSuchElementException if its tour has no such stop: below 0, and from the number of its stops on. */
    private static void noSuchStop() {
        ShuttleRow row = busy();
        String before = Check.all(row, 2);
        ofStops("bus 0", row, 0, 3);
        ofStops("bus 1, that has none any more", row, 1, 0);
        check.same("19 to 21: nothing changed", Check.all(row, 2), before);
        check.same("19: the first of three", row.stopRequest(0, 0), 1);
        check.same("19: the last of three", row.stopRequest(0, 2), 0);
        check.same("20: the first of three", row.isPickup(0, 0), true);
        check.same("20: the last of three", row.isPickup(0, 2), false);
        check.same("21: the first of three", row.stopTime(0, 0), 6);
        check.same("21: the last of three", row.stopTime(0, 2), 9);
        ShuttleRow full = new ShuttleRow();
        full.addBus(3, 60, 0, 0);
        for (int r = 0; r < 3; r++) {
            full.request(1, 0, 2, 0, 1);
        }
        ofStops("a full tour", full, 0, 6);
        check.same("19: the last of six", full.stopRequest(0, 5), 0);
        check.same("20: the last of six", full.isPickup(0, 5), false);
        check.same("21: the last of six", full.stopTime(0, 5), 2);
    }

    private static void ofStops(String what, ShuttleRow row, int bus, int stops) {
        check.same("18: " + what, row.stops(bus), stops);
        for (int index : new int[] {-1, stops, stops + 1, 6, 7, 8, LEAST, MOST}) {
            check.throwing("19: " + what + ", " + index, MISSING, () -> row.stopRequest(bus, index));
            check.throwing("20: " + what + ", " + index, MISSING, () -> row.isPickup(bus, index));
            check.throwing("21: " + what + ", " + index, MISSING, () -> row.stopTime(bus, index));
        }
    }

    /** If both apply, that of the bus is thrown. */
    private static void noSuchBusAheadOfNoSuchStop() {
        ShuttleRow row = busy();
        for (int bus : new int[] {-1, 2, LEAST, MOST}) {
            for (int index : new int[] {-1, 6, LEAST, MOST}) {
                check.throwing("19: " + bus + " and " + index, INDEX, () -> row.stopRequest(bus, index));
                check.throwing("20: " + bus + " and " + index, INDEX, () -> row.isPickup(bus, index));
                check.throwing("21: " + bus + " and " + index, INDEX, () -> row.stopTime(bus, index));
            }
        }
    }

    /** IllegalArgumentException if the number is not between 1 and 60. */
    private static void pass() {
        ShuttleRow row = busy();
        throwing("26", ARGUMENT, row, 2, () -> row.pass(0), () -> row.pass(61), () -> row.pass(-1),
                () -> row.pass(LEAST), () -> row.pass(MOST));
        check.same("26: 1 is taken", row.pass(1), 0);
        check.same("27: 1 is taken", row.now(), 5);
        check.same("26: 60 is taken", row.pass(60), 3);
        check.same("27: 60 is taken", row.now(), 65);
    }

    /** NoSuchElementException if the bus has not driven: charging is not driving, and 1 is enough. */
    private static void occupancy() {
        ShuttleRow row = withBuses(2);
        throwing("35: at first", MISSING, row, 2, () -> row.occupancy(0), () -> row.occupancy(1));
        row.pass(60);
        throwing("35: an hour later", MISSING, row, 2, () -> row.occupancy(0), () -> row.occupancy(1));
        row.request(0, 6, 0, 7, 2);
        throwing("35: with a tour", MISSING, row, 2, () -> row.occupancy(0));
        row.pass(1);
        check.same("35: driven with nobody", row.occupancy(0), 0f);
        throwing("35: the other one", MISSING, row, 2, () -> row.occupancy(1));
    }

    /** IndexOutOfBoundsException if there is no such entry: below 0, and from the number of entries on. */
    private static void noSuchEntry() {
        ShuttleRow none = withBuses(1);
        for (int entry : new int[] {-1, 0, 59, 60, LEAST, MOST}) {
            ofEntry("none, " + entry, none, entry);
        }
        ShuttleRow row = busy();
        check.same("36: two pickups and a drop", row.entries(), 3);
        String before = Check.all(row, 2);
        for (int entry : new int[] {-1, 3, 4, 59, 60, LEAST, MOST}) {
            ofEntry("three, " + entry, row, entry);
        }
        check.same("37 to 40: nothing changed", Check.all(row, 2), before);
        check.same("37: the first", row.entryBus(0), 1);
        check.same("38: the first", row.entryRequest(0), 4);
        check.same("39: the first", row.entryTime(0), 0);
        check.same("40: the first", row.entryDistance(0), 0);
        check.same("38: of the same minute, the lower bus first", row.entryRequest(1), 0);
        check.same("37: the last", row.entryBus(2), 1);
        check.same("38: the last", row.entryRequest(2), 4);
        check.same("39: the last", row.entryTime(2), 2);
        check.same("40: the last", row.entryDistance(2), 2);
    }

    private static void ofEntry(String what, ShuttleRow row, int entry) {
        check.throwing("37: " + what, INDEX, () -> row.entryBus(entry));
        check.throwing("38: " + what, INDEX, () -> row.entryRequest(entry));
        check.throwing("39: " + what, INDEX, () -> row.entryTime(entry));
        check.throwing("40: " + what, INDEX, () -> row.entryDistance(entry));
    }

    /** NoSuchElementException if nobody was dropped: refused, cancelled, waiting or on board is not enough. */
    private static void worstRide() {
        ShuttleRow row = withBuses(1);
        throwing("41: no request", MISSING, row, 1, () -> row.worstRide());
        row.request(1, 5, 2, 5, 3);
        throwing("41: refused", MISSING, row, 1, () -> row.worstRide());
        row.request(1, 5, 2, 5, 1);
        throwing("41: waits", MISSING, row, 1, () -> row.worstRide());
        row.cancel(1);
        throwing("41: cancelled", MISSING, row, 1, () -> row.worstRide());
        row.request(0, 5, 2, 5, 1);
        throwing("41: on board", MISSING, row, 1, () -> row.worstRide());
        row.pass(1);
        throwing("41: still on board", MISSING, row, 1, () -> row.worstRide());
        row.pass(1);
        check.same("41: dropped, as directly as can be", row.worstRide(), 0);
    }
}

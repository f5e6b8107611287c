import java.util.ArrayList;
import java.util.NoSuchElementException;

/**
 * A planner of shuttle buses. Requests come one at a time and are put into the tour of a bus or
 * refused with a reason; buses drive minute by minute and keep what was promised to each rider.
 */
public final class ShuttleRow {
    private static final int TOWN_END = 20;
    private static final int MOST_BUSES = 4;
    private static final int MOST_SEATS = 6;
    private static final int LEAST_CAPACITY = 20;
    private static final int MOST_CAPACITY = 200;
    private static final int CHARGED_IN_A_MINUTE = 5;

    private static final int MOST_REQUESTS = 30;
    private static final int MOST_RIDERS = 6;
    private static final int FIRST_DETOUR = 50;
    private static final int MOST_DETOUR = 200;
    private static final int FIRST_WAIT = 15;
    private static final int MOST_WAIT = 60;
    private static final int MOST_MINUTES = 60;

    private static final int MOST_STOPS = 6;
    /** A plan lays two stops more into a full tour before it is checked. */
    private static final int MOST_PLANNED_STOPS = MOST_STOPS + 2;
    private static final int MOST_ENTRIES = 2 * MOST_REQUESTS;
    /** Six stops have 720 orders. */
    private static final int MOST_ORDERS = 720;

    private static final char WAITING = 'w';
    private static final char RIDING = 'r';
    private static final char DROPPED = 'd';
    private static final char CANCELLED = 'c';
    private static final char REFUSED = 'x';

    /** The faults are numbered in the order in which they are checked, so the last one is the greatest. */
    private static final int NO_FAULT = 0;
    private static final int SEATS_FAULT = 1;
    private static final int WAIT_FAULT = 2;
    private static final int DETOUR_FAULT = 3;
    private static final int BATTERY_FAULT = 4;

    private static final int NONE = -1;
    /** Far above the length of any tour. */
    private static final int NO_BOUND = 1000000;

    private final ArrayList<Bus> buses;
    private final Book book;
    private final Journal journal;
    private final Inspection inspection;
    private final Choice choice;
    private final Orders orders;
    private int now;
    private int detour;
    private int wait;

    /** Creates a planner without buses, at the time 0. */
    public ShuttleRow() {
        buses = new ArrayList<>();
        book = new Book();
        journal = new Journal();
        inspection = new Inspection(book);
        Walk walk = new Walk(book);
        choice = new Choice(inspection, walk);
        orders = new Orders(inspection, walk);
        now = 0;
        detour = FIRST_DETOUR;
        wait = FIRST_WAIT;
    }

    // Settings and buses.

    /** Sets the detour, in percent, for requests that come from now on; returns the one before. */
    public int setDetour(int percent) throws IllegalArgumentException {
        if (!isBetween(percent, 0, MOST_DETOUR)) {
            throw new IllegalArgumentException("the detour is not between 0 and 200");
        }
        int before = detour;
        detour = percent;
        return before;
    }

    /** Sets the wait for requests that come from now on; returns the one before. */
    public int setWait(int minutes) throws IllegalArgumentException {
        if (!isBetween(minutes, 0, MOST_WAIT)) {
            throw new IllegalArgumentException("the wait is not between 0 and 60");
        }
        int before = wait;
        wait = minutes;
        return before;
    }

    /** Adds a bus at its depot with a full battery; returns its number. */
    public int addBus(int seats, int capacity, int x, int y)
            throws IllegalArgumentException, IllegalStateException {
        if (!isBetween(seats, 1, MOST_SEATS) || !isBetween(capacity, LEAST_CAPACITY, MOST_CAPACITY)
                || !isInTown(x, y)) {
            throw new IllegalArgumentException("there is no such bus");
        }
        int number = buses.size();
        if (number >= MOST_BUSES) {
            throw new IllegalStateException("there are 4 buses");
        }
        buses.add(new Bus(number, seats, capacity, x, y));
        return number;
    }

    // Requests.

    /** Takes in a request, and plans or refuses it; returns its number. */
    public int request(int fromX, int fromY, int toX, int toY, int riders)
            throws IllegalArgumentException, UnsupportedOperationException, IllegalStateException {
        takeWish(fromX, fromY, toX, toY, riders);
        int number = book.count();
        if (number >= MOST_REQUESTS) {
            throw new IllegalStateException("there are 30 requests");
        }
        choice.tryAll(buses, number, now);
        Request request = book.keepWish();
        if (choice.isFound() && choice.bus < buses.size()) {
            Bus bus = buses.get(choice.bus);
            request.status = WAITING;
            request.bus = bus.number;
            choice.layBest(bus.tour, number);
            bus.tour.copyFrom(choice.plan);
            makeDueStops(bus);
        } else {
            request.status = REFUSED;
            request.fault = choice.fault;
        }
        return number;
    }

    /** Returns what the plan adds that a request would get now, found by plans that are given up early. */
    public int quote(int fromX, int fromY, int toX, int toY, int riders)
            throws IllegalArgumentException, UnsupportedOperationException, NoSuchElementException {
        takeWish(fromX, fromY, toX, toY, riders);
        choice.tryEarly(buses, book.count(), now);
        checkFound();
        return choice.added;
    }

    /** Returns the same as quote, found by trying all plans. */
    public int quoteByTrying(int fromX, int fromY, int toX, int toY, int riders)
            throws IllegalArgumentException, UnsupportedOperationException, NoSuchElementException {
        takeWish(fromX, fromY, toX, toY, riders);
        choice.tryAll(buses, book.count(), now);
        checkFound();
        return choice.added;
    }

    /** Returns the bus that a request would get now. */
    public int quotedBus(int fromX, int fromY, int toX, int toY, int riders)
            throws IllegalArgumentException, UnsupportedOperationException, NoSuchElementException {
        takeWish(fromX, fromY, toX, toY, riders);
        choice.tryAll(buses, book.count(), now);
        checkFound();
        return choice.bus;
    }

    /** Cancels a request that waits; returns the number of its bus. */
    public int cancel(int request) throws IndexOutOfBoundsException, IllegalStateException {
        Request cancelled = keptRequest(request);
        if (cancelled.status != WAITING) {
            throw new IllegalStateException("the request does not wait");
        }
        cancelled.status = CANCELLED;
        Bus bus = keptBus(cancelled.bus);
        bus.tour.removeStop(pickupOf(request));
        bus.tour.removeStop(dropOf(request));
        makeDueStops(bus);
        return bus.number;
    }

    /** Returns 'w' waiting, 'r' riding, 'd' dropped, 'c' cancelled, or 'x' refused. */
    public char status(int request) throws IndexOutOfBoundsException {
        return keptRequest(request).status;
    }

    /** Returns why a request was refused: 's' seats, 'w' wait, 'd' detour, or 'b' battery. */
    public char reason(int request) throws IndexOutOfBoundsException, IllegalStateException {
        Request refused = keptRequest(request);
        if (refused.status != REFUSED) {
            throw new IllegalStateException("the request was not refused");
        }
        return signOf(refused.fault);
    }

    /** Returns the bus of a request, be it cancelled or not. */
    public int busOf(int request) throws IndexOutOfBoundsException, IllegalStateException {
        Request planned = keptRequest(request);
        if (planned.status == REFUSED) {
            throw new IllegalStateException("the request was refused");
        }
        return planned.bus;
    }

    /** Returns the latest pickup of a request, be it refused or not. */
    public int latestPickup(int request) throws IndexOutOfBoundsException {
        return keptRequest(request).latestPickup;
    }

    /** Returns the longest ride of a request, be it refused or not. */
    public int longestRide(int request) throws IndexOutOfBoundsException {
        return keptRequest(request).longestRide;
    }

    /** Returns when a request was picked up, or will be by the tour now. */
    public int pickupTime(int request) throws IndexOutOfBoundsException, IllegalStateException {
        Request served = servedRequest(request);
        if (served.status == WAITING) {
            return plannedTime(keptBus(served.bus), pickupOf(request));
        }
        return served.pickedAt;
    }

    /** Returns when the riders of a request were dropped, or will be by the tour now. */
    public int dropTime(int request) throws IndexOutOfBoundsException, IllegalStateException {
        Request served = servedRequest(request);
        if (served.status == DROPPED) {
            return served.droppedAt;
        }
        return plannedTime(keptBus(served.bus), dropOf(request));
    }

    /** Returns the number of requests, refused ones included. */
    public int requests() {
        return book.count();
    }

    // Tours.

    /** Returns the number of stops of a tour. */
    public int stops(int bus) throws IndexOutOfBoundsException {
        return keptBus(bus).tour.count;
    }

    /** Returns the request of a stop. */
    public int stopRequest(int bus, int index) throws IndexOutOfBoundsException, NoSuchElementException {
        Tour tour = keptBus(bus).tour;
        checkStop(tour, index);
        return requestOf(tour.stopAt(index));
    }

    /** Tells whether a stop is for picking up. */
    public boolean isPickup(int bus, int index) throws IndexOutOfBoundsException, NoSuchElementException {
        Tour tour = keptBus(bus).tour;
        checkStop(tour, index);
        return picksUp(tour.stopAt(index));
    }

    /** Returns when a stop will be made by the tour now. */
    public int stopTime(int bus, int index) throws IndexOutOfBoundsException, NoSuchElementException {
        Bus driver = keptBus(bus);
        checkStop(driver.tour, index);
        return plannedTime(driver, driver.tour.stopAt(index));
    }

    /** Returns the length of a tour. */
    public int length(int bus) throws IndexOutOfBoundsException {
        Bus driver = keptBus(bus);
        return inspection.lengthOf(driver, driver.tour);
    }

    /** Returns the length of the best order, found by orders that are given up early. */
    public int bestLength(int bus) throws IndexOutOfBoundsException {
        Bus driver = keptBus(bus);
        orders.tryEarly(driver, now);
        return inspection.lengthOf(driver, orders.best);
    }

    /** Returns the same as bestLength, found by trying all orders. */
    public int bestLengthByTrying(int bus) throws IndexOutOfBoundsException {
        Bus driver = keptBus(bus);
        orders.tryAll(driver, now);
        return inspection.lengthOf(driver, orders.best);
    }

    /** Gives a tour the best order; returns by how much its length became less. */
    public int improve(int bus) throws IndexOutOfBoundsException {
        Bus driver = keptBus(bus);
        int before = inspection.lengthOf(driver, driver.tour);
        orders.tryEarly(driver, now);
        driver.tour.copyFrom(orders.best);
        int after = inspection.lengthOf(driver, driver.tour);
        makeDueStops(driver);
        return before - after;
    }

    // Driving.

    /** Lets minutes pass; returns the number of stops that were made. */
    public int pass(int minutes) throws IllegalArgumentException {
        if (!isBetween(minutes, 1, MOST_MINUTES)) {
            throw new IllegalArgumentException("the minutes are not between 1 and 60");
        }
        int made = 0;
        for (int minute = 0; minute < minutes; minute++) {
            now++;
            for (int b = 0; b < buses.size(); b++) {
                Bus bus = buses.get(b);
                spendMinute(bus);
                made += makeDueStops(bus);
            }
        }
        return made;
    }

    /** Returns the time. */
    public int now() {
        return now;
    }

    /** Returns the coordinate x of the place of a bus. */
    public int x(int bus) throws IndexOutOfBoundsException {
        return keptBus(bus).x;
    }

    /** Returns the coordinate y of the place of a bus. */
    public int y(int bus) throws IndexOutOfBoundsException {
        return keptBus(bus).y;
    }

    /** Returns the charge of a bus. */
    public int charge(int bus) throws IndexOutOfBoundsException {
        return keptBus(bus).charge;
    }

    /** Returns the number of riders on board. */
    public int onBoard(int bus) throws IndexOutOfBoundsException {
        return keptBus(bus).onBoard;
    }

    /** Returns the distance that a bus has driven. */
    public int driven(int bus) throws IndexOutOfBoundsException {
        return keptBus(bus).driven;
    }

    /** Returns the empty distance that a bus has driven, as it is kept. */
    public int empty(int bus) throws IndexOutOfBoundsException {
        return keptBus(bus).drivenEmpty;
    }

    /** Returns the same as empty, found from the journal. */
    public int emptyByJournal(int bus) throws IndexOutOfBoundsException {
        Bus driver = keptBus(bus);
        return journal.emptyDistance(driver.number, driver.driven, book);
    }

    /** Returns the mean number of riders on board over the distance that a bus has driven. */
    public float occupancy(int bus) throws IndexOutOfBoundsException, NoSuchElementException {
        Bus driver = keptBus(bus);
        if (driver.driven <= 0) {
            throw new NoSuchElementException("the bus has not driven");
        }
        return (float) driver.riderDistance / (float) driver.driven;
    }

    // Journal.

    /** Returns the number of entries. */
    public int entries() {
        return journal.count;
    }

    /** Returns the bus of an entry. */
    public int entryBus(int entry) throws IndexOutOfBoundsException {
        checkEntry(entry);
        return journal.busAt(entry);
    }

    /** Returns the request of an entry. */
    public int entryRequest(int entry) throws IndexOutOfBoundsException {
        checkEntry(entry);
        return journal.requestAt(entry);
    }

    /** Returns the time of an entry. */
    public int entryTime(int entry) throws IndexOutOfBoundsException {
        checkEntry(entry);
        return journal.timeAt(entry);
    }

    /** Returns the distance that the bus of an entry had driven. */
    public int entryDistance(int entry) throws IndexOutOfBoundsException {
        checkEntry(entry);
        return journal.distanceAt(entry);
    }

    /** Returns the greatest difference of ride and direct ride of all requests whose riders were dropped. */
    public int worstRide() throws NoSuchElementException {
        int worst = NONE;
        for (int r = 0; r < book.count(); r++) {
            Request request = book.requestAt(r);
            if (request.status == DROPPED) {
                worst = Math.max(worst, request.droppedAt - request.pickedAt - request.directRide);
            }
        }
        // No ride is shorter than the direct one, so NONE stays only if nobody was dropped.
        if (worst == NONE) {
            throw new NoSuchElementException("nobody was dropped");
        }
        return worst;
    }

    // What the calls test first.

    private Bus keptBus(int number) {
        if (number < 0 || number >= buses.size()) {
            throw new IndexOutOfBoundsException("there is no such bus");
        }
        return buses.get(number);
    }

    private Request keptRequest(int number) {
        if (number < 0 || number >= book.count()) {
            throw new IndexOutOfBoundsException("there is no such request");
        }
        return book.requestAt(number);
    }

    /** A request that has, had or will have a pickup and a drop. */
    private Request servedRequest(int number) {
        Request request = keptRequest(number);
        if (request.status == REFUSED || request.status == CANCELLED) {
            throw new IllegalStateException("the request was refused or cancelled");
        }
        return request;
    }

    private void checkWish(int fromX, int fromY, int toX, int toY, int riders) {
        if (!isInTown(fromX, fromY) || !isInTown(toX, toY) || !isBetween(riders, 1, MOST_RIDERS)) {
            throw new IllegalArgumentException("there is no such request");
        }
        if (fromX == toX && fromY == toY) {
            throw new UnsupportedOperationException("both places are the same");
        }
    }

    private void checkFound() {
        if (!choice.isFound()) {
            throw new NoSuchElementException("the request would be refused");
        }
    }

    private void checkStop(Tour tour, int index) {
        if (index < 0 || index >= tour.count) {
            throw new NoSuchElementException("the tour has no such stop");
        }
    }

    private void checkEntry(int entry) {
        if (entry < 0 || entry >= journal.count) {
            throw new IndexOutOfBoundsException("there is no such entry");
        }
    }

    // What the calls are made of.

    private void takeWish(int fromX, int fromY, int toX, int toY, int riders) {
        checkWish(fromX, fromY, toX, toY, riders);
        Request wish = book.wish;
        wish.fromX = fromX;
        wish.fromY = fromY;
        wish.toX = toX;
        wish.toY = toY;
        wish.riders = riders;
        wish.directRide = distance(fromX, fromY, toX, toY);
        wish.latestPickup = now + wait;
        wish.longestRide = wish.directRide * (100 + detour) / 100;
    }

    private int plannedTime(Bus bus, int stop) {
        inspection.clock(bus, bus.tour, now);
        return inspection.timeAt(bus.tour.indexOf(stop));
    }

    private void spendMinute(Bus bus) {
        if (bus.tour.count > 0) {
            int first = bus.tour.stopAt(0);
            bus.driveTowards(book.xOf(first), book.yOf(first));
        } else if (bus.x != bus.depotX || bus.y != bus.depotY) {
            bus.driveTowards(bus.depotX, bus.depotY);
        } else {
            bus.charge = Math.min(bus.capacity, bus.charge + CHARGED_IN_A_MINUTE);
        }
    }

    /** Makes the stops at the head of the tour that are where the bus is; returns how many. */
    private int makeDueStops(Bus bus) {
        int made = 0;
        for (int left = bus.tour.count; left > 0; left--) {
            int first = bus.tour.stopAt(0);
            if (book.wayTo(first, bus.x, bus.y) > 0) {
                break;
            }
            bus.tour.removeStop(first);
            makeStop(bus, first);
            made++;
        }
        return made;
    }

    private void makeStop(Bus bus, int stop) {
        Request request = book.requestAt(requestOf(stop));
        if (picksUp(stop)) {
            request.status = RIDING;
            request.pickedAt = now;
            bus.onBoard += request.riders;
        } else {
            request.status = DROPPED;
            request.droppedAt = now;
            bus.onBoard -= request.riders;
        }
        journal.write(bus.number, requestOf(stop), now, bus.driven);
    }

    private static boolean isBetween(int value, int least, int most) {
        return value >= least && value <= most;
    }

    private static boolean isInTown(int x, int y) {
        return isBetween(x, 0, TOWN_END) && isBetween(y, 0, TOWN_END);
    }

    private static int distance(int x, int y, int otherX, int otherY) {
        return Math.abs(x - otherX) + Math.abs(y - otherY);
    }

    private static char signOf(int fault) {
        switch (fault) {
            case WAIT_FAULT:
                return 'w';
            case DETOUR_FAULT:
                return 'd';
            case BATTERY_FAULT:
                return 'b';
            default:
                return 's';
        }
    }

    // A stop is written as one number: the request twice, and 1 more for its drop. So the stops in
    // the order of their numbers are in that of their requests, each pickup ahead of its drop.

    private static int pickupOf(int request) {
        return 2 * request;
    }

    private static int dropOf(int request) {
        return 2 * request + 1;
    }

    private static int requestOf(int stop) {
        return stop >> 1;
    }

    private static boolean picksUp(int stop) {
        return (stop & 1) == 0;
    }

    /** A request, and what has become of it. */
    private static final class Request {
        private int fromX;
        private int fromY;
        private int toX;
        private int toY;
        private int riders;
        private int directRide;
        private int latestPickup;
        private int longestRide;
        private char status;
        private int fault;
        private int bus = NONE;
        private int pickedAt;
        private int droppedAt;
    }

    /** The requests that came, and the wish: the one that asks now and would have the next number. */
    private static final class Book {
        private final ArrayList<Request> requests = new ArrayList<>();
        private Request wish = new Request();

        private int count() {
            return requests.size();
        }

        private Request requestAt(int number) {
            if (number < 0 || number >= requests.size()) {
                return wish;
            }
            return requests.get(number);
        }

        private Request keepWish() {
            Request kept = wish;
            requests.add(kept);
            wish = new Request();
            return kept;
        }

        private int xOf(int stop) {
            Request request = requestAt(requestOf(stop));
            return picksUp(stop) ? request.fromX : request.toX;
        }

        private int yOf(int stop) {
            Request request = requestAt(requestOf(stop));
            return picksUp(stop) ? request.fromY : request.toY;
        }

        private int wayTo(int stop, int x, int y) {
            return distance(x, y, xOf(stop), yOf(stop));
        }
    }

    /** A bus, where it is, and what it has driven. */
    private static final class Bus {
        private final int number;
        private final int seats;
        private final int capacity;
        private final int depotX;
        private final int depotY;
        private final Tour tour = new Tour();
        private int x;
        private int y;
        private int charge;
        private int onBoard;
        private int driven;
        private int drivenEmpty;
        /** The sum of the distances that each rider was driven. */
        private int riderDistance;

        private Bus(int number, int seats, int capacity, int depotX, int depotY) {
            this.number = number;
            this.seats = seats;
            this.capacity = capacity;
            this.depotX = depotX;
            this.depotY = depotY;
            x = depotX;
            y = depotY;
            charge = capacity;
        }

        private void driveTowards(int goalX, int goalY) {
            if (x != goalX) {
                x += goalX > x ? 1 : -1;
            } else {
                y += goalY > y ? 1 : -1;
            }
            charge--;
            driven++;
            riderDistance += onBoard;
            if (onBoard == 0) {
                drivenEmpty++;
            }
        }
    }

    /** Stops in the order in which they are to be made, with room for a plan's. */
    private static final class Tour {
        private final int[] stops = new int[MOST_PLANNED_STOPS];
        private int count;

        private int stopAt(int index) {
            return index >= 0 && index < count && index < stops.length ? stops[index] : NONE;
        }

        private void set(int index, int stop) {
            if (index >= 0 && index < stops.length) {
                stops[index] = stop;
            }
        }

        private int indexOf(int stop) {
            for (int k = 0; k < count; k++) {
                if (stopAt(k) == stop) {
                    return k;
                }
            }
            return NONE;
        }

        private void add(int stop) {
            if (count < stops.length) {
                set(count, stop);
                count++;
            }
        }

        private void removeStop(int stop) {
            int index = indexOf(stop);
            if (index < 0) {
                return;
            }
            for (int k = index; k + 1 < count; k++) {
                set(k, stopAt(k + 1));
            }
            count--;
        }

        private void copyFrom(Tour other) {
            count = 0;
            for (int k = 0; k < other.count; k++) {
                add(other.stopAt(k));
            }
        }

        private void sortFrom(int first, boolean upwards) {
            for (int k = first + 1; k < count; k++) {
                for (int at = k; at > first; at--) {
                    if ((stopAt(at - 1) < stopAt(at)) == upwards) {
                        break;
                    }
                    swap(at - 1, at);
                }
            }
        }

        private void swap(int one, int other) {
            int stop = stopAt(one);
            set(one, stopAt(other));
            set(other, stop);
        }

        /** Gives the stops the next order of the same stops; returns false if they have the last one. */
        private boolean turnToNext() {
            int turn = count - 2;
            while (turn >= 0 && stopAt(turn) > stopAt(turn + 1)) {
                turn--;
            }
            if (turn < 0) {
                return false;
            }
            int partner = count - 1;
            while (partner > turn && stopAt(partner) < stopAt(turn)) {
                partner--;
            }
            swap(turn, partner);
            sortFrom(turn + 1, true);
            return true;
        }
    }

    /** Looks at a tour of a bus as a whole. */
    private static final class Inspection {
        private final Book book;
        private final int[] times = new int[MOST_PLANNED_STOPS];

        private Inspection(Book book) {
            this.book = book;
        }

        private int lengthOf(Bus bus, Tour tour) {
            int x = bus.x;
            int y = bus.y;
            int length = 0;
            for (int k = 0; k < tour.count; k++) {
                int stop = tour.stopAt(k);
                length += book.wayTo(stop, x, y);
                x = book.xOf(stop);
                y = book.yOf(stop);
            }
            return length + distance(x, y, bus.depotX, bus.depotY);
        }

        /** Notes when each stop of a tour would be made. */
        private void clock(Bus bus, Tour tour, int now) {
            int x = bus.x;
            int y = bus.y;
            int time = now;
            for (int k = 0; k < tour.count && k < times.length; k++) {
                int stop = tour.stopAt(k);
                time += book.wayTo(stop, x, y);
                times[k] = time;
                x = book.xOf(stop);
                y = book.yOf(stop);
            }
        }

        private int timeAt(int index) {
            return index >= 0 && index < times.length ? times[index] : NONE;
        }

        /** The first check that fails, each for the whole tour. */
        private int faultOf(Bus bus, Tour tour, int now) {
            clock(bus, tour, now);
            if (tour.count > MOST_STOPS || lacksSeats(bus, tour)) {
                return SEATS_FAULT;
            }
            if (comesLate(tour)) {
                return WAIT_FAULT;
            }
            if (ridesLong(tour)) {
                return DETOUR_FAULT;
            }
            return lengthOf(bus, tour) > bus.charge ? BATTERY_FAULT : NO_FAULT;
        }

        private boolean lacksSeats(Bus bus, Tour tour) {
            int riders = bus.onBoard;
            for (int k = 0; k < tour.count; k++) {
                int stop = tour.stopAt(k);
                int moved = book.requestAt(requestOf(stop)).riders;
                riders += picksUp(stop) ? moved : -moved;
                if (riders > bus.seats) {
                    return true;
                }
            }
            return false;
        }

        private boolean comesLate(Tour tour) {
            for (int k = 0; k < tour.count; k++) {
                int stop = tour.stopAt(k);
                if (picksUp(stop) && timeAt(k) > book.requestAt(requestOf(stop)).latestPickup) {
                    return true;
                }
            }
            return false;
        }

        private boolean ridesLong(Tour tour) {
            for (int k = 0; k < tour.count; k++) {
                int stop = tour.stopAt(k);
                if (!picksUp(stop)) {
                    Request request = book.requestAt(requestOf(stop));
                    int pickup = tour.indexOf(pickupOf(requestOf(stop)));
                    int since = pickup >= 0 ? timeAt(pickup) : request.pickedAt;
                    if (timeAt(k) - since > request.longestRide) {
                        return true;
                    }
                }
            }
            return false;
        }

        private boolean dropsAheadOfPickup(Tour tour) {
            for (int k = 0; k < tour.count; k++) {
                int stop = tour.stopAt(k);
                if (!picksUp(stop) && tour.indexOf(pickupOf(requestOf(stop))) > k) {
                    return true;
                }
            }
            return false;
        }
    }

    /** Goes along a tour stop by stop, and gives it up at the first that makes it impossible or too long. */
    private static final class Walk {
        private final Book book;
        private final int[] times = new int[MOST_PLANNED_STOPS];
        private int x;
        private int y;
        private int way;
        private int riders;
        /** The way until now and back to the depot: no way over more stops is shorter. */
        private int length;

        private Walk(Book book) {
            this.book = book;
        }

        /** Returns the stop at which the tour is given up, or NONE if it is possible and below the bound. */
        private int follow(Bus bus, Tour tour, int now, int bound) {
            x = bus.x;
            y = bus.y;
            way = 0;
            riders = bus.onBoard;
            length = distance(x, y, bus.depotX, bus.depotY);
            if (tour.count > MOST_STOPS) {
                return 0;
            }
            for (int k = 0; k < tour.count; k++) {
                int stop = tour.stopAt(k);
                goTo(bus, stop);
                if (length >= bound || length > bus.charge || !canMake(bus, tour, k, now)) {
                    return k;
                }
            }
            return NONE;
        }

        private void goTo(Bus bus, int stop) {
            way += book.wayTo(stop, x, y);
            x = book.xOf(stop);
            y = book.yOf(stop);
            length = way + distance(x, y, bus.depotX, bus.depotY);
        }

        private boolean canMake(Bus bus, Tour tour, int index, int now) {
            int stop = tour.stopAt(index);
            Request request = book.requestAt(requestOf(stop));
            int time = now + way;
            if (index >= 0 && index < times.length) {
                times[index] = time;
            }
            if (picksUp(stop)) {
                riders += request.riders;
                return riders <= bus.seats && time <= request.latestPickup;
            }
            riders -= request.riders;
            int pickup = tour.indexOf(pickupOf(requestOf(stop)));
            if (pickup > index) {
                return false;
            }
            int since = pickup >= 0 && pickup < times.length ? times[pickup] : request.pickedAt;
            return time - since <= request.longestRide;
        }
    }

    /** Finds the plan that a request gets. */
    private static final class Choice {
        private final Inspection inspection;
        private final Walk walk;
        private final Tour plan = new Tour();
        private int bus;
        private int pickupIndex;
        private int dropIndex;
        private int added;
        private int fault;

        private Choice(Inspection inspection, Walk walk) {
            this.inspection = inspection;
            this.walk = walk;
        }

        private boolean isFound() {
            return bus >= 0;
        }

        private void tryAll(ArrayList<Bus> buses, int request, int now) {
            forget();
            for (int b = 0; b < buses.size(); b++) {
                Bus driver = buses.get(b);
                int before = inspection.lengthOf(driver, driver.tour);
                for (int i = 0; i <= driver.tour.count; i++) {
                    for (int j = i; j <= driver.tour.count; j++) {
                        lay(driver.tour, request, i, j);
                        int found = inspection.faultOf(driver, plan, now);
                        fault = Math.max(fault, found);
                        int adds = inspection.lengthOf(driver, plan) - before;
                        if (found == NO_FAULT && adds < added) {
                            keep(b, i, j, adds);
                        }
                    }
                }
            }
        }

        private void tryEarly(ArrayList<Bus> buses, int request, int now) {
            forget();
            for (int b = 0; b < buses.size(); b++) {
                Bus driver = buses.get(b);
                int before = inspection.lengthOf(driver, driver.tour);
                for (int i = 0; i <= driver.tour.count; i++) {
                    for (int j = i; j <= driver.tour.count; j++) {
                        lay(driver.tour, request, i, j);
                        int bound = isFound() ? before + added : NO_BOUND;
                        if (walk.follow(driver, plan, now, bound) == NONE) {
                            keep(b, i, j, walk.length - before);
                        }
                    }
                }
            }
        }

        private void layBest(Tour tour, int request) {
            lay(tour, request, pickupIndex, dropIndex);
        }

        private void lay(Tour tour, int request, int i, int j) {
            plan.count = 0;
            for (int k = 0; k <= tour.count; k++) {
                if (k == i) {
                    plan.add(pickupOf(request));
                }
                if (k == j) {
                    plan.add(dropOf(request));
                }
                if (k < tour.count) {
                    plan.add(tour.stopAt(k));
                }
            }
        }

        private void forget() {
            bus = NONE;
            added = NO_BOUND;
            fault = SEATS_FAULT;
        }

        private void keep(int number, int i, int j, int adds) {
            bus = number;
            pickupIndex = i;
            dropIndex = j;
            added = adds;
        }
    }

    /** Finds the best order of the stops of a bus. */
    private static final class Orders {
        private final Inspection inspection;
        private final Walk walk;
        private final Tour order = new Tour();
        private final Tour best = new Tour();
        /** The length that a better order stays below. */
        private int bound;

        private Orders(Inspection inspection, Walk walk) {
            this.inspection = inspection;
            this.walk = walk;
        }

        private void tryAll(Bus bus, int now) {
            begin(bus);
            for (int tried = 0; tried < MOST_ORDERS; tried++) {
                int length = inspection.lengthOf(bus, order);
                if (length < bound && !inspection.dropsAheadOfPickup(order)
                        && inspection.faultOf(bus, order, now) == NO_FAULT) {
                    keep(length);
                }
                if (!order.turnToNext()) {
                    break;
                }
            }
        }

        private void tryEarly(Bus bus, int now) {
            begin(bus);
            for (int tried = 0; tried < MOST_ORDERS; tried++) {
                int givenUp = walk.follow(bus, order, now, bound);
                if (givenUp == NONE) {
                    keep(walk.length);
                } else {
                    // The next order then differs at this stop or ahead of it.
                    order.sortFrom(givenUp + 1, false);
                }
                if (!order.turnToNext()) {
                    break;
                }
            }
        }

        /** The order now is possible, so the best one is not longer; it may be another one of its length. */
        private void begin(Bus bus) {
            best.copyFrom(bus.tour);
            order.copyFrom(bus.tour);
            order.sortFrom(0, true);
            bound = inspection.lengthOf(bus, bus.tour) + 1;
        }

        /** Orders come in the order of their requests, so of several the first one is kept. */
        private void keep(int length) {
            best.copyFrom(order);
            bound = length;
        }
    }

    /** The stops that were made, in their order. */
    private static final class Journal {
        private final int[] buses = new int[MOST_ENTRIES];
        private final int[] requests = new int[MOST_ENTRIES];
        private final int[] times = new int[MOST_ENTRIES];
        private final int[] distances = new int[MOST_ENTRIES];
        private int count;

        private void write(int bus, int request, int time, int distance) {
            if (count < MOST_ENTRIES) {
                buses[count] = bus;
                requests[count] = request;
                times[count] = time;
                distances[count] = distance;
                count++;
            }
        }

        private int busAt(int entry) {
            return entry >= 0 && entry < buses.length ? buses[entry] : NONE;
        }

        private int requestAt(int entry) {
            return entry >= 0 && entry < requests.length ? requests[entry] : NONE;
        }

        private int timeAt(int entry) {
            return entry >= 0 && entry < times.length ? times[entry] : NONE;
        }

        private int distanceAt(int entry) {
            return entry >= 0 && entry < distances.length ? distances[entry] : NONE;
        }

        /** The distance that a bus drove with nobody on board, of the one that it has driven. */
        private int emptyDistance(int bus, int driven, Book book) {
            int distance = 0;
            int since = 0;
            int riders = 0;
            for (int entry = 0; entry < count; entry++) {
                if (busAt(entry) == bus) {
                    distance += riders == 0 ? distanceAt(entry) - since : 0;
                    since = distanceAt(entry);
                    int moved = book.requestAt(requestAt(entry)).riders;
                    riders += isFirstOfRequest(entry) ? moved : -moved;
                }
            }
            return distance + (riders == 0 ? driven - since : 0);
        }

        /** The first entry of a request is its pickup. */
        private boolean isFirstOfRequest(int entry) {
            for (int k = 0; k < entry; k++) {
                if (requestAt(k) == requestAt(entry)) {
                    return false;
                }
            }
            return true;
        }
    }
}

import java.util.ArrayList;
import java.util.List;
import java.util.NoSuchElementException;

/**
 * The document once more, as slowly as it is written: each tour that is checked is driven minute by
 * minute, and each answer is counted anew. ModelTest holds ShuttleRow against it.
 */
final class Model {
    /** A request; its pickup and its drop are told apart by what the tour holds. */
    static final class Ride {
        int number, fromX, fromY, toX, toY, riders, latest, longest, bus = -1, picked = -1, dropped = -1;
        char status = '?', reason = '?';

        int direct() {
            return Math.abs(fromX - toX) + Math.abs(fromY - toY);
        }
    }

    record Stop(Ride ride, boolean pickup) {
        int x() {
            return pickup ? ride.fromX : ride.toX;
        }

        int y() {
            return pickup ? ride.fromY : ride.toY;
        }
    }

    record Entry(int bus, int request, int time, int distance) { }

    static final class Van {
        int number, seats, capacity, depotX, depotY, x, y, charge;
        List<Stop> tour = new ArrayList<>();
        /** The riders on board in each minute that it drove. */
        List<Integer> ridersPerMinute = new ArrayList<>();
        int riders;
    }

    record Plan(int bus, int added, List<Stop> tour, char reason) { }

    int now = 0, detour = 50, wait = 15;
    final List<Van> vans = new ArrayList<>();
    final List<Ride> rides = new ArrayList<>();
    final List<Entry> entries = new ArrayList<>();

    int setDetour(int percent) {
        if (percent < 0 || percent > 200) throw new IllegalArgumentException();
        int before = detour;
        detour = percent;
        return before;
    }

    int setWait(int minutes) {
        if (minutes < 0 || minutes > 60) throw new IllegalArgumentException();
        int before = wait;
        wait = minutes;
        return before;
    }

    int addBus(int seats, int capacity, int x, int y) {
        if (seats < 1 || seats > 6 || capacity < 20 || capacity > 200) throw new IllegalArgumentException();
        if (x < 0 || x > 20 || y < 0 || y > 20) throw new IllegalArgumentException();
        if (vans.size() == 4) throw new IllegalStateException();
        Van van = new Van();
        van.number = vans.size();
        van.seats = seats;
        van.capacity = van.charge = capacity;
        van.depotX = van.x = x;
        van.depotY = van.y = y;
        vans.add(van);
        return van.number;
    }

    Ride wish(int fromX, int fromY, int toX, int toY, int riders) {
        for (int c : new int[] {fromX, fromY, toX, toY}) {
            if (c < 0 || c > 20) throw new IllegalArgumentException();
        }
        if (riders < 1 || riders > 6) throw new IllegalArgumentException();
        if (fromX == toX && fromY == toY) throw new UnsupportedOperationException();
        Ride ride = new Ride();
        ride.number = rides.size();
        ride.fromX = fromX;
        ride.fromY = fromY;
        ride.toX = toX;
        ride.toY = toY;
        ride.riders = riders;
        ride.latest = now + wait;
        ride.longest = (int) Math.floor(ride.direct() * (100 + detour) / 100.0 + 1e-9);
        return ride;
    }

    int request(int fromX, int fromY, int toX, int toY, int riders) {
        Ride ride = wish(fromX, fromY, toX, toY, riders);
        if (rides.size() == 30) throw new IllegalStateException();
        Plan plan = choose(ride);
        rides.add(ride);
        if (plan.tour == null) {
            ride.status = 'x';
            ride.reason = plan.reason;
        } else {
            ride.status = 'w';
            ride.bus = plan.bus;
            vans.get(plan.bus).tour = plan.tour;
            makeStops(vans.get(plan.bus));
        }
        return ride.number;
    }

    int quote(int fromX, int fromY, int toX, int toY, int riders) {
        return found(wish(fromX, fromY, toX, toY, riders)).added;
    }

    int quotedBus(int fromX, int fromY, int toX, int toY, int riders) {
        return found(wish(fromX, fromY, toX, toY, riders)).bus;
    }

    private Plan found(Ride ride) {
        Plan plan = choose(ride);
        if (plan.tour == null) throw new NoSuchElementException();
        return plan;
    }

    private Plan choose(Ride ride) {
        Plan best = null;
        String faults = "s";
        for (Van van : vans) {
            for (int i = 0; i <= van.tour.size(); i++) {
                for (int j = i; j <= van.tour.size(); j++) {
                    List<Stop> tour = new ArrayList<>(van.tour);
                    tour.add(j, new Stop(ride, false));
                    tour.add(i, new Stop(ride, true));
                    char fault = fault(van, tour);
                    int added = lengthOf(van, tour) - lengthOf(van, van.tour);
                    if (fault != '-') {
                        faults += fault;
                    } else if (best == null || added < best.added) {
                        best = new Plan(van.number, added, tour, '-');
                    }
                }
            }
        }
        if (best != null) return best;
        char last = 's';
        for (char c : "swdb".toCharArray()) {
            if (faults.indexOf(c) >= 0) last = c;
        }
        return new Plan(-1, 0, null, last);
    }

    private char fault(Van van, List<Stop> tour) {
        if (tour.size() > 6) return 's';
        int riders = van.riders;
        for (Stop stop : tour) {
            riders += stop.pickup ? stop.ride.riders : -stop.ride.riders;
            if (riders > van.seats) return 's';
        }
        int[] times = drive(van, tour);
        for (int k = 0; k < tour.size(); k++) {
            if (tour.get(k).pickup && times[k] > tour.get(k).ride.latest) return 'w';
        }
        for (int k = 0; k < tour.size(); k++) {
            Stop stop = tour.get(k);
            if (stop.pickup) continue;
            int at = tour.indexOf(new Stop(stop.ride, true));
            if (times[k] - (at < 0 ? stop.ride.picked : times[at]) > stop.ride.longest) return 'd';
        }
        return lengthOf(van, tour) > van.charge ? 'b' : '-';
    }

    /** The time of each stop, and that of the arrival at the depot. */
    private int[] drive(Van van, List<Stop> tour) {
        int[] times = new int[tour.size() + 1];
        int x = van.x, y = van.y, time = now;
        for (int k = 0; k <= tour.size(); k++) {
            int goalX = k < tour.size() ? tour.get(k).x() : van.depotX;
            int goalY = k < tour.size() ? tour.get(k).y() : van.depotY;
            while (x != goalX || y != goalY) {
                if (x != goalX) x += Integer.signum(goalX - x);
                else y += Integer.signum(goalY - y);
                time++;
            }
            times[k] = time;
        }
        return times;
    }

    private int lengthOf(Van van, List<Stop> tour) {
        return drive(van, tour)[tour.size()] - now;
    }

    private Van van(int bus) {
        if (bus < 0 || bus >= vans.size()) throw new IndexOutOfBoundsException();
        return vans.get(bus);
    }

    private Ride ride(int request) {
        if (request < 0 || request >= rides.size()) throw new IndexOutOfBoundsException();
        return rides.get(request);
    }

    int cancel(int request) {
        Ride ride = ride(request);
        if (ride.status != 'w') throw new IllegalStateException();
        ride.status = 'c';
        vans.get(ride.bus).tour.removeIf(stop -> stop.ride == ride);
        makeStops(vans.get(ride.bus));
        return ride.bus;
    }

    char status(int request) {
        return ride(request).status;
    }

    char reason(int request) {
        if (ride(request).status != 'x') throw new IllegalStateException();
        return ride(request).reason;
    }

    int busOf(int request) {
        if (ride(request).status == 'x') throw new IllegalStateException();
        return ride(request).bus;
    }

    int latestPickup(int request) {
        return ride(request).latest;
    }

    int longestRide(int request) {
        return ride(request).longest;
    }

    int pickupTime(int request) {
        return timeOf(ride(request), true);
    }

    int dropTime(int request) {
        return timeOf(ride(request), false);
    }

    private int timeOf(Ride ride, boolean pickup) {
        if (ride.status == 'x' || ride.status == 'c') throw new IllegalStateException();
        int made = pickup ? ride.picked : ride.dropped;
        if (made >= 0) return made;
        Van van = vans.get(ride.bus);
        return drive(van, van.tour)[van.tour.indexOf(new Stop(ride, pickup))];
    }

    int requests() {
        return rides.size();
    }

    int stops(int bus) {
        return van(bus).tour.size();
    }

    private Stop stop(int bus, int index) {
        Van van = van(bus);
        if (index < 0 || index >= van.tour.size()) throw new NoSuchElementException();
        return van.tour.get(index);
    }

    int stopRequest(int bus, int index) {
        return stop(bus, index).ride.number;
    }

    boolean isPickup(int bus, int index) {
        return stop(bus, index).pickup;
    }

    int stopTime(int bus, int index) {
        stop(bus, index);
        return drive(van(bus), van(bus).tour)[index];
    }

    int length(int bus) {
        return lengthOf(van(bus), van(bus).tour);
    }

    int bestLength(int bus) {
        return lengthOf(van(bus), bestOrder(van(bus)));
    }

    int improve(int bus) {
        Van van = van(bus);
        int before = length(bus);
        van.tour = bestOrder(van);
        int after = length(bus);
        makeStops(van);
        return before - after;
    }

    private List<Stop> bestOrder(Van van) {
        List<List<Stop>> orders = new ArrayList<>();
        addOrders(new ArrayList<>(), van.tour, orders);
        List<Stop> best = null;
        for (List<Stop> order : orders) {
            if (!pickupsFirst(order) || fault(van, order) != '-') continue;
            if (best == null || isBetter(van, order, best)) best = order;
        }
        return best;
    }

    private void addOrders(List<Stop> begun, List<Stop> left, List<List<Stop>> orders) {
        if (left.isEmpty()) orders.add(begun);
        for (Stop stop : left) {
            List<Stop> longer = new ArrayList<>(begun);
            longer.add(stop);
            List<Stop> fewer = new ArrayList<>(left);
            fewer.remove(stop);
            addOrders(longer, fewer, orders);
        }
    }

    private boolean pickupsFirst(List<Stop> order) {
        for (Stop stop : order) {
            if (!stop.pickup && order.indexOf(new Stop(stop.ride, true)) > order.indexOf(stop)) return false;
        }
        return true;
    }

    private boolean isBetter(Van van, List<Stop> order, List<Stop> than) {
        int shorter = lengthOf(van, than) - lengthOf(van, order);
        if (shorter != 0) return shorter > 0;
        for (int k = 0; k < order.size(); k++) {
            if (!order.get(k).equals(than.get(k))) return order.get(k).ride.number < than.get(k).ride.number;
        }
        return false;
    }

    int pass(int minutes) {
        if (minutes < 1 || minutes > 60) throw new IllegalArgumentException();
        int before = entries.size();
        for (int m = 0; m < minutes; m++) {
            now++;
            for (Van van : vans) minute(van);
        }
        return entries.size() - before;
    }

    private void minute(Van van) {
        boolean hasStops = !van.tour.isEmpty();
        int goalX = hasStops ? van.tour.get(0).x() : van.depotX;
        int goalY = hasStops ? van.tour.get(0).y() : van.depotY;
        if (van.x == goalX && van.y == goalY) {
            van.charge = Math.min(van.charge + 5, van.capacity);
            return;
        }
        if (van.x != goalX) van.x += Integer.signum(goalX - van.x);
        else van.y += Integer.signum(goalY - van.y);
        van.charge--;
        van.ridersPerMinute.add(van.riders);
        makeStops(van);
    }

    private void makeStops(Van van) {
        while (!van.tour.isEmpty() && van.tour.get(0).x() == van.x && van.tour.get(0).y() == van.y) {
            Stop stop = van.tour.remove(0);
            if (stop.pickup) {
                stop.ride.status = 'r';
                stop.ride.picked = now;
                van.riders += stop.ride.riders;
            } else {
                stop.ride.status = 'd';
                stop.ride.dropped = now;
                van.riders -= stop.ride.riders;
            }
            entries.add(new Entry(van.number, stop.ride.number, now, van.ridersPerMinute.size()));
        }
    }

    int x(int bus) {
        return van(bus).x;
    }

    int y(int bus) {
        return van(bus).y;
    }

    int charge(int bus) {
        return van(bus).charge;
    }

    int onBoard(int bus) {
        int sum = 0;
        van(bus);
        for (Ride ride : rides) {
            if (ride.status == 'r' && ride.bus == bus) sum += ride.riders;
        }
        return sum;
    }

    int driven(int bus) {
        return van(bus).ridersPerMinute.size();
    }

    int empty(int bus) {
        int sum = 0;
        for (int riders : van(bus).ridersPerMinute) sum += riders == 0 ? 1 : 0;
        return sum;
    }

    float occupancy(int bus) {
        int sum = 0;
        for (int riders : van(bus).ridersPerMinute) sum += riders;
        if (driven(bus) == 0) throw new NoSuchElementException();
        return (float) sum / (float) driven(bus);
    }

    Entry entry(int entry) {
        if (entry < 0 || entry >= entries.size()) throw new IndexOutOfBoundsException();
        return entries.get(entry);
    }

    int worstRide() {
        int worst = -1;
        for (Ride ride : rides) {
            if (ride.status == 'd') worst = Math.max(worst, ride.dropped - ride.picked - ride.direct());
        }
        if (worst < 0) throw new NoSuchElementException();
        return worst;
    }
}

import java.util.Random;
import java.util.function.Supplier;

/**
 * All promises together: runs of calls on a ShuttleRow and on the Model, whose answers have to be the
 * same. The runs are drawn with a fixed seed, so each time they are the same ones.
 */
public final class ModelTest {
    private static final int RUNS = 1500;
    /** The last of them may bring others along; an object is used for at most 512. */
    private static final int CALLS = 380;
    private static final int[] ODD = {-1, 0, 4, 21, 30, 60, 61, 201, Integer.MIN_VALUE, Integer.MAX_VALUE};

    private static final Check check = new Check("ModelTest");

    private final Random random;
    private final ShuttleRow row = new ShuttleRow();
    private final Model model = new Model();
    /** The places of a run are from 0 to this: the smaller it is, the more tours cross. */
    private final int town;
    private final String name;
    private int call = 0;

    private ModelTest(int run) {
        random = new Random(run);
        town = 3 + random.nextInt(18);
        name = "run " + run;
    }

    public static void main(String[] args) {
        for (int run = 0; run < RUNS; run++) {
            ModelTest test = new ModelTest(run);
            test.begin();
            while (test.call < CALLS) {
                test.next();
            }
        }
        check.end();
    }

    private void begin() {
        if (random.nextInt(4) > 0) {
            int wait = 20 + random.nextInt(41);
            int detour = 50 + random.nextInt(151);
            both("setWait " + wait, () -> row.setWait(wait), () -> model.setWait(wait));
            both("setDetour " + detour, () -> row.setDetour(detour), () -> model.setDetour(detour));
        }
        for (int b = random.nextInt(3); b >= 0; b--) {
            addBus();
        }
    }

    private void next() {
        int kind = random.nextInt(100);
        if (kind < 1) {
            odd();
        } else if (kind < 2) {
            addBus();
        } else if (kind < 4) {
            settings();
        } else if (kind < 28) {
            ask();
        } else if (kind < 44) {
            pass();
        } else if (kind < 47) {
            cancel();
        } else if (kind < 60) {
            improve();
        } else {
            tell();
        }
    }

    private void addBus() {
        int seats = 1 + random.nextInt(6);
        int capacity = random.nextBoolean() ? 20 + random.nextInt(40) : 20 + random.nextInt(181);
        int x = random.nextInt(town + 1);
        int y = random.nextInt(town + 1);
        both("addBus " + seats + " " + capacity + " " + x + " " + y, () -> row.addBus(seats, capacity, x, y),
                () -> model.addBus(seats, capacity, x, y));
    }

    private void settings() {
        int wait = random.nextInt(62) - 1;
        int detour = random.nextInt(203) - 1;
        both("setWait " + wait, () -> row.setWait(wait), () -> model.setWait(wait));
        both("setDetour " + detour, () -> row.setDetour(detour), () -> model.setDetour(detour));
    }

    private void ask() {
        int[] r = new int[5];
        for (int k = 0; k < 4; k++) {
            r[k] = random.nextInt(town + 1);
        }
        r[4] = random.nextInt(10) > 0 ? 1 + random.nextInt(2) : 1 + random.nextInt(6);
        String what = java.util.Arrays.toString(r);
        // Not all of them each time, so that none lives on what another one left behind.
        if (random.nextInt(3) > 0) {
            both("quote " + what, () -> row.quote(r[0], r[1], r[2], r[3], r[4]),
                    () -> model.quote(r[0], r[1], r[2], r[3], r[4]));
        }
        if (random.nextInt(3) > 0) {
            both("quoteByTrying " + what, () -> row.quoteByTrying(r[0], r[1], r[2], r[3], r[4]),
                    () -> model.quote(r[0], r[1], r[2], r[3], r[4]));
        }
        if (random.nextInt(3) > 0) {
            both("quotedBus " + what, () -> row.quotedBus(r[0], r[1], r[2], r[3], r[4]),
                    () -> model.quotedBus(r[0], r[1], r[2], r[3], r[4]));
        }
        // Else the thirty requests would soon be used up.
        if (random.nextInt(3) == 0) {
            both("request " + what, () -> row.request(r[0], r[1], r[2], r[3], r[4]),
                    () -> model.request(r[0], r[1], r[2], r[3], r[4]));
            tours();
        }
    }

    private void pass() {
        int minutes = random.nextInt(6) > 0 ? 1 + random.nextInt(4) : random.nextInt(62);
        both("pass " + minutes, () -> row.pass(minutes), () -> model.pass(minutes));
        tours();
    }

    private void cancel() {
        int number = random.nextInt(model.requests() + 2) - 1;
        both("cancel " + number, () -> row.cancel(number), () -> model.cancel(number));
        tours();
    }

    private void improve() {
        int bus = random.nextInt(model.vans.size() + 1);
        if (random.nextBoolean()) {
            both("bestLength " + bus, () -> row.bestLength(bus), () -> model.bestLength(bus));
        }
        if (random.nextBoolean()) {
            both("bestLengthByTrying " + bus, () -> row.bestLengthByTrying(bus), () -> model.bestLength(bus));
        }
        if (random.nextInt(3) == 0) {
            both("improve " + bus, () -> row.improve(bus), () -> model.improve(bus));
            tours();
        }
    }

    private void tours() {
        for (int b = 0; b < model.vans.size(); b++) {
            int bus = b;
            both("stops " + b, () -> row.stops(bus), () -> model.stops(bus));
            for (int k = 0; k < model.stops(b); k++) {
                int index = k;
                both("stopRequest " + b + " " + k, () -> row.stopRequest(bus, index), () -> model.stopRequest(bus, index));
                both("isPickup " + b + " " + k, () -> row.isPickup(bus, index), () -> model.isPickup(bus, index));
                both("stopTime " + b + " " + k, () -> row.stopTime(bus, index), () -> model.stopTime(bus, index));
            }
            both("x " + b, () -> row.x(bus), () -> model.x(bus));
            both("y " + b, () -> row.y(bus), () -> model.y(bus));
            both("charge " + b, () -> row.charge(bus), () -> model.charge(bus));
        }
    }

    private void tell() {
        aboutRequest(random.nextInt(model.requests() + 2) - 1);
        aboutBus(random.nextInt(model.vans.size() + 2) - 1, random.nextInt(8) - 1);
        aboutEntry(random.nextInt(model.entries.size() + 2) - 1);
    }

    private void aboutRequest(int r) {
        both("status " + r, () -> row.status(r), () -> model.status(r));
        both("reason " + r, () -> row.reason(r), () -> model.reason(r));
        both("busOf " + r, () -> row.busOf(r), () -> model.busOf(r));
        both("latestPickup " + r, () -> row.latestPickup(r), () -> model.latestPickup(r));
        both("longestRide " + r, () -> row.longestRide(r), () -> model.longestRide(r));
        both("pickupTime " + r, () -> row.pickupTime(r), () -> model.pickupTime(r));
        both("dropTime " + r, () -> row.dropTime(r), () -> model.dropTime(r));
        both("requests", () -> row.requests(), () -> model.requests());
    }

    private void aboutBus(int b, int index) {
        both("stopRequest " + b + " " + index, () -> row.stopRequest(b, index), () -> model.stopRequest(b, index));
        both("isPickup " + b + " " + index, () -> row.isPickup(b, index), () -> model.isPickup(b, index));
        both("stopTime " + b + " " + index, () -> row.stopTime(b, index), () -> model.stopTime(b, index));
        both("length " + b, () -> row.length(b), () -> model.length(b));
        both("onBoard " + b, () -> row.onBoard(b), () -> model.onBoard(b));
        both("driven " + b, () -> row.driven(b), () -> model.driven(b));
        both("empty " + b, () -> row.empty(b), () -> model.empty(b));
        both("emptyByJournal " + b, () -> row.emptyByJournal(b), () -> model.empty(b));
        both("occupancy " + b, () -> row.occupancy(b), () -> model.occupancy(b));
        both("worstRide", () -> row.worstRide(), () -> model.worstRide());
        both("now", () -> row.now(), () -> model.now);
    }

    private void aboutEntry(int e) {
        both("entries", () -> row.entries(), () -> model.entries.size());
        both("entryBus " + e, () -> row.entryBus(e), () -> model.entry(e).bus());
        both("entryRequest " + e, () -> row.entryRequest(e), () -> model.entry(e).request());
        both("entryTime " + e, () -> row.entryTime(e), () -> model.entry(e).time());
        both("entryDistance " + e, () -> row.entryDistance(e), () -> model.entry(e).distance());
    }

    /** Calls with arguments from beyond the edges. */
    private void odd() {
        int a = ODD[random.nextInt(ODD.length)];
        int b = ODD[random.nextInt(ODD.length)];
        both("setDetour " + a, () -> row.setDetour(a), () -> model.setDetour(a));
        both("setWait " + a, () -> row.setWait(a), () -> model.setWait(a));
        both("addBus " + a + " " + b, () -> row.addBus(a, b, b, a), () -> model.addBus(a, b, b, a));
        both("request " + a + " " + b, () -> row.request(a, b, b, a, 1), () -> model.request(a, b, b, a, 1));
        both("quote " + a + " " + b, () -> row.quote(1, a, b, 1, a), () -> model.quote(1, a, b, 1, a));
        both("cancel " + a, () -> row.cancel(a), () -> model.cancel(a));
        both("pass " + a, () -> row.pass(a), () -> model.pass(a));
        both("improve " + a, () -> row.improve(a), () -> model.improve(a));
        aboutRequest(a);
        aboutBus(a, b);
        aboutEntry(a);
        tours();
    }

    private void both(String what, Supplier<Object> real, Supplier<Object> due) {
        call++;
        check.same(name + ", call " + call + ", " + what, Check.answer(real), Check.answer(due));
    }
}

import java.util.function.Supplier;

/** Counts the answers that are not as due, and ends the program with exit code 1 if there are any. */
final class Check {
    private final String name;
    private int made = 0;
    private int wrong = 0;

    Check(String name) {
        this.name = name;
    }

    /** A call that answers nothing here because it should throw. */
    interface Call {
        void run();
    }

    void same(String what, long got, long due) {
        made++;
        if (got != due) {
            tell(what + " answered " + got + ", due is " + due);
        }
    }

    void same(String what, char got, char due) {
        made++;
        if (got != due) {
            tell(what + " answered '" + got + "', due is '" + due + "'");
        }
    }

    void same(String what, boolean got, boolean due) {
        made++;
        if (got != due) {
            tell(what + " answered " + got + ", due is " + due);
        }
    }

    void same(String what, float got, float due) {
        made++;
        if (Float.compare(got, due) != 0) {
            tell(what + " answered " + got + ", due is " + due);
        }
    }

    void same(String what, String got, String due) {
        made++;
        if (!got.equals(due)) {
            tell(what + " answered " + got + ", due is " + due);
        }
    }

    /** The class has to be the very one: a class below it is another exception. */
    void throwing(String what, Class<? extends Throwable> due, Call call) {
        made++;
        try {
            call.run();
        } catch (Throwable got) {
            if (!thrownBy(got).equals(due.getName())) {
                tell(what + " threw " + thrownBy(got) + ", due is " + due.getName());
            }
            return;
        }
        tell(what + " threw nothing, due is " + due.getName());
    }

    /** The exception's name; the class has to throw it by itself, and not the library or the machine in its place. */
    static String thrownBy(Throwable got) {
        StackTraceElement[] trace = got.getStackTrace();
        boolean own = trace.length > 0 && trace[0].getClassName().matches("(ShuttleRow|Model)(\\$.*)?");
        boolean machine = got instanceof ArrayIndexOutOfBoundsException || got instanceof NullPointerException
                || got instanceof ArithmeticException || got instanceof ClassCastException
                || got instanceof NegativeArraySizeException || got instanceof ArrayStoreException;
        return got.getClass().getName() + (own && !machine ? "" : " by the machine");
    }

    void end() {
        System.out.println(name + ": " + made + " checks, " + wrong + " wrong");
        if (wrong != 0) {
            System.exit(1);
        }
    }

    private void tell(String line) {
        wrong++;
        if (wrong <= 20) {
            System.out.println(name + ": " + line);
        }
    }

    /** The tour of a bus as a text: p3 picks up and d3 drops the riders of request 3. */
    static String tour(ShuttleRow row, int bus) {
        StringBuilder text = new StringBuilder();
        int stops = row.stops(bus);
        for (int k = 0; k < stops; k++) {
            text.append(k == 0 ? "" : " ").append(row.isPickup(bus, k) ? 'p' : 'd').append(row.stopRequest(bus, k));
        }
        return text.toString();
    }

    /** The times of the stops of a bus as a text. */
    static String times(ShuttleRow row, int bus) {
        StringBuilder text = new StringBuilder();
        int stops = row.stops(bus);
        for (int k = 0; k < stops; k++) {
            text.append(k == 0 ? "" : " ").append(row.stopTime(bus, k));
        }
        return text.toString();
    }

    /** Everything that a planner shows, its settings too, to see that a call changed nothing. */
    static String all(ShuttleRow row, int buses) {
        StringBuilder text = new StringBuilder("now " + row.now() + ", " + settings(row) + ", worst ");
        text.append(answer(() -> row.worstRide()));
        for (int b = 0; b < buses; b++) {
            text.append("; bus ").append(bus(row, b));
        }
        text.append("; no more than ").append(answer(() -> row.stops(buses)));
        int requests = row.requests();
        for (int r = 0; r < requests; r++) {
            text.append("; request ").append(request(row, r));
        }
        int entries = row.entries();
        for (int e = 0; e < entries; e++) {
            text.append("; entry ").append(row.entryBus(e)).append(' ').append(row.entryRequest(e));
            text.append(' ').append(row.entryTime(e)).append(' ').append(row.entryDistance(e));
        }
        return text.toString();
    }

    /** A setting is only told by setting another one, so it is set back. */
    private static String settings(ShuttleRow row) {
        int detour = row.setDetour(0);
        row.setDetour(detour);
        int wait = row.setWait(0);
        row.setWait(wait);
        return "detour " + detour + ", wait " + wait;
    }

    private static String bus(ShuttleRow row, int b) {
        return row.x(b) + "," + row.y(b) + " charge " + row.charge(b) + " on board " + row.onBoard(b)
                + " driven " + row.driven(b) + " empty " + row.empty(b) + " " + row.emptyByJournal(b)
                + " occupancy " + answer(() -> row.occupancy(b)) + " [" + tour(row, b) + "] [" + times(row, b) + "]";
    }

    private static String request(ShuttleRow row, int r) {
        return row.status(r) + " " + row.latestPickup(r) + " " + row.longestRide(r) + " " + answer(() -> row.reason(r))
                + " " + answer(() -> row.busOf(r)) + " " + answer(() -> row.pickupTime(r))
                + " " + answer(() -> row.dropTime(r));
    }

    static String answer(Supplier<Object> asked) {
        try {
            return String.valueOf(asked.get());
        } catch (RuntimeException thrown) {
            return thrownBy(thrown);
        }
    }
}

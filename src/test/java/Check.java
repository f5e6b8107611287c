/** Counts the answers that are not as due, and ends the program with exit code 1 if there are any. */
final class Check {
    private final String name;
    private int made = 0;
    private int wrong = 0;

    Check(String name) {
        this.name = name;
    }

    /** A call that answers nothing here because it should throw. */
    interface Call {
        void run();
    }

    void same(String what, long got, long due) {
        made++;
        if (got != due) {
            tell(what + " answered " + got + ", due is " + due);
        }
    }

    void same(String what, char got, char due) {
        made++;
        if (got != due) {
            tell(what + " answered '" + got + "', due is '" + due + "'");
        }
    }

    void same(String what, boolean got, boolean due) {
        made++;
        if (got != due) {
            tell(what + " answered " + got + ", due is " + due);
        }
    }

    void same(String what, float got, float due) {
        made++;
        if (Float.compare(got, due) != 0) {
            tell(what + " answered " + got + ", due is " + due);
        }
    }

    void same(String what, String got, String due) {
        made++;
        if (!got.equals(due)) {
            tell(what + " answered " + got + ", due is " + due);
        }
    }

    /** The class has to be the very one: a class below it is another exception. */
    void throwing(String what, Class<? extends Throwable> due, Call call) {
        made++;
        try {
            call.run();
        } catch (Throwable got) {
            if (!thrownBy(got).equals(due.getName())) {
                tell(what + " threw " + thrownBy(got) + ", due is " + due.getName());
            }
            return;
        }
        tell(what + " threw nothing, due is " + due.getName());
    }

    /** The exception's name; the class has to throw it by itself, and not the library or the machine in its place. */
    static String thrownBy(Throwable got) {
        StackTraceElement[] trace = got.getStackTrace();
        boolean own = trace.length > 0 && trace[0].getClassName().matches("(ShuttleRow|Model)(\\$.*)?");
        boolean machine = got instanceof ArrayIndexOutOfBoundsException || got instanceof NullPointerException
                || got instanceof ArithmeticException || got instanceof ClassCastException
                || got instanceof NegativeArraySizeException || got instanceof ArrayStoreException;
        return got.getClass().getName() + (own && !machine ? "" : " by the machine");
    }

    void end() {
        System.out.println(name + ": " + made + " checks, " + wrong + " wrong");
        if (wrong != 0) {
            System.exit(1);
        }
    }

    private void tell(String line) {
        wrong++;
        if (wrong <= 20) {
            System.out.println(name + ": " + line);
        }
    }

    /** The tour of a bus as a text: p3 picks up and d3 drops the riders of request 3. */
    static String tour(ShuttleRow row, int bus) {
        StringBuilder text = new StringBuilder();
        for (int k = 0; k < row.stops(bus); k++) {
            text.append(k == 0 ? "" : " ").append(row.isPickup(bus, k) ? 'p' : 'd').append(row.stopRequest(bus, k));
        }
        return text.toString();
    }

    /** The times of the stops of a bus as a text. */
    static String times(ShuttleRow row, int bus) {
        StringBuilder text = new StringBuilder();
        for (int k = 0; k < row.stops(bus); k++) {
            text.append(k == 0 ? "" : " ").append(row.stopTime(bus, k));
        }
        return text.toString();
    }

    /** Everything that a planner shows, to see that a call changed nothing. */
    static String all(ShuttleRow row, int buses) {
        StringBuilder text = new StringBuilder();
        text.append("now ").append(row.now());
        for (int b = 0; b < buses; b++) {
            text.append("; bus ").append(row.x(b)).append(',').append(row.y(b)).append(' ').append(row.charge(b));
            text.append(' ').append(row.onBoard(b)).append(' ').append(row.driven(b)).append(' ').append(row.empty(b));
            text.append(" [").append(tour(row, b)).append("] [").append(times(row, b)).append(']');
        }
        for (int r = 0; r < row.requests(); r++) {
            text.append("; ").append(row.status(r)).append(row.latestPickup(r)).append(' ').append(row.longestRide(r));
        }
        for (int e = 0; e < row.entries(); e++) {
            text.append("; entry ").append(row.entryBus(e)).append(' ').append(row.entryRequest(e));
            text.append(' ').append(row.entryTime(e)).append(' ').append(row.entryDistance(e));
        }
        return text.toString();
    }
}

import java.util.NoSuchElementException;

/** Promises 6 to 8: quote, quoteByTrying, quotedBus. */
public final class QuoteTest {
    private static final Check check = new Check("QuoteTest");

    public static void main(String[] args) {
        nearerBus();
        awayFromTheDepot();
        settingsOfNow();
        tiesGoToTheLowestBus();
        refused();
        wrongRequests();
        changesNothing();
        afterThirtyRequests();
        eachAlone();
        wholeCharge();
        check.end();
    }

    private static void due(String what, ShuttleRow row, int[] r, int adds, int bus) {
        check.same("6: " + what, row.quote(r[0], r[1], r[2], r[3], r[4]), adds);
        check.same("7: " + what, row.quoteByTrying(r[0], r[1], r[2], r[3], r[4]), adds);
        check.same("8: " + what, row.quotedBus(r[0], r[1], r[2], r[3], r[4]), bus);
    }

    private static void throwing(String what, ShuttleRow row, int[] r, Class<? extends Throwable> due) {
        check.throwing("6: " + what, due, () -> row.quote(r[0], r[1], r[2], r[3], r[4]));
        check.throwing("7: " + what, due, () -> row.quoteByTrying(r[0], r[1], r[2], r[3], r[4]));
        check.throwing("8: " + what, due, () -> row.quotedBus(r[0], r[1], r[2], r[3], r[4]));
    }

    private static void nearerBus() {
        ShuttleRow row = new ShuttleRow();
        row.addBus(2, 60, 0, 0);
        row.addBus(2, 60, 10, 0);
        due("bus 1", row, new int[] {9, 0, 12, 0, 1}, 1 + 3 + 2, 1);
        due("bus 0", row, new int[] {2, 1, 3, 1, 2}, 3 + 1 + 4, 0);
        row.request(2, 0, 8, 0, 1);
        due("on the way of bus 0", row, new int[] {3, 0, 7, 0, 1}, 0, 0);
        due("a detour of 2", row, new int[] {3, 1, 7, 1, 1}, 2, 0);
        row.request(3, 0, 7, 0, 1);
        due("no seat on the way, so behind it", row, new int[] {3, 0, 7, 0, 1}, 5 + 4 + 7 - 8, 0);
    }

    private static void awayFromTheDepot() {
        ShuttleRow row = new ShuttleRow();
        row.addBus(2, 60, 0, 0);
        row.request(0, 0, 5, 0, 1);
        row.pass(5);
        check.same("22: nothing but the way to the depot", row.length(0), 5);
        due("9 instead of 5", row, new int[] {5, 1, 5, 2, 1}, 4, 0);
        due("on the way to the depot", row, new int[] {4, 0, 1, 0, 1}, 0, 0);
    }

    private static void settingsOfNow() {
        ShuttleRow row = new ShuttleRow();
        row.addBus(2, 60, 0, 0);
        row.setWait(3);
        due("at the last minute", row, new int[] {3, 0, 4, 0, 1}, 8, 0);
        throwing("too late", row, new int[] {4, 0, 3, 0, 1}, NoSuchElementException.class);
        row.setWait(4);
        due("not too late", row, new int[] {4, 0, 3, 0, 1}, 8, 0);
        row.pass(60);
        due("the wait counts from now", row, new int[] {4, 0, 3, 0, 1}, 8, 0);
    }

    private static void tiesGoToTheLowestBus() {
        ShuttleRow row = new ShuttleRow();
        row.addBus(2, 60, 7, 7);
        row.addBus(2, 60, 3, 3);
        row.addBus(2, 60, 3, 3);
        due("a nearer bus with a higher number", row, new int[] {4, 4, 5, 5, 1}, 8, 1);
        due("the lower one of two that add the same", row, new int[] {3, 4, 3, 5, 1}, 4, 1);
    }

    private static void refused() {
        ShuttleRow row = new ShuttleRow();
        throwing("no bus", row, new int[] {1, 0, 2, 0, 1}, NoSuchElementException.class);
        row.addBus(2, 20, 0, 0);
        throwing("seats", row, new int[] {1, 0, 2, 0, 3}, NoSuchElementException.class);
        throwing("wait", row, new int[] {16, 0, 15, 0, 1}, NoSuchElementException.class);
        throwing("battery", row, new int[] {1, 0, 11, 0, 1}, NoSuchElementException.class);
        row.setDetour(0);
        row.setWait(1);
        row.request(1, 0, 8, 0, 1);
        row.setWait(2);
        throwing("detour", row, new int[] {2, 0, 2, 1, 1}, NoSuchElementException.class);
        due("no detour", row, new int[] {2, 0, 3, 0, 1}, 0, 0);
        row.setWait(60);
        row.request(2, 0, 3, 0, 1);
        row.request(4, 0, 5, 0, 1);
        check.same("18: full", row.stops(0), 6);
        throwing("stops", row, new int[] {6, 0, 7, 0, 1}, NoSuchElementException.class);
    }

    private static void wrongRequests() {
        ShuttleRow row = new ShuttleRow();
        int[][] wrong = {{-1, 0, 5, 5, 1}, {21, 0, 5, 5, 1}, {0, -1, 5, 5, 1}, {0, 21, 5, 5, 1}, {0, 0, -1, 5, 1},
            {0, 0, 21, 5, 1}, {0, 0, 5, -1, 1}, {0, 0, 5, 21, 1}, {0, 0, 5, 5, 0}, {0, 0, 5, 5, 7},
            {0, Integer.MIN_VALUE, 5, 5, 1}, {0, 0, 5, 5, Integer.MAX_VALUE}, {21, 3, 21, 3, 1}, {3, 3, 3, 3, 0}};
        for (int[] r : wrong) {
            throwing("no bus and " + java.util.Arrays.toString(r), row, r, IllegalArgumentException.class);
        }
        throwing("the same place", row, new int[] {3, 4, 3, 4, 1}, UnsupportedOperationException.class);
        row.addBus(6, 200, 0, 0);
        throwing("wrong riders", row, new int[] {0, 0, 5, 5, 0}, IllegalArgumentException.class);
        due("the most riders, the farthest way", row, new int[] {0, 0, 20, 20, 6}, 80, 0);
    }

    private static void changesNothing() {
        ShuttleRow row = new ShuttleRow();
        row.addBus(2, 60, 0, 0);
        row.request(2, 0, 8, 0, 1);
        row.pass(1);
        String before = Check.all(row, 1);
        due("where the bus is", row, new int[] {1, 0, 5, 0, 1}, 0, 0);
        throwing("refused", row, new int[] {20, 20, 5, 0, 1}, NoSuchElementException.class);
        check.same("6, 7, 8: nothing changed", Check.all(row, 1), before);
    }

    /** The document has no exception for it, so the quote is answered as ever. */
    private static void afterThirtyRequests() {
        ShuttleRow row = new ShuttleRow();
        for (int r = 0; r < 29; r++) {
            row.request(0, 0, 5, 5, 1);
        }
        row.addBus(2, 60, 0, 0);
        row.request(2, 0, 6, 0, 1);
        check.same("17: thirty", row.requests(), 30);
        due("with thirty requests", row, new int[] {3, 0, 5, 0, 1}, 0, 0);
        due("with thirty requests, farther", row, new int[] {3, 0, 7, 0, 1}, 2, 0);
    }

    /** Each call is asked first, with nothing that another one could have left behind. */
    private static void eachAlone() {
        ShuttleRow row = new ShuttleRow();
        row.addBus(2, 60, 0, 0);
        row.addBus(2, 60, 10, 0);
        check.same("6: alone", row.quote(9, 0, 12, 0, 1), 6);
        check.same("7: alone", row.quoteByTrying(2, 0, 3, 0, 1), 6);
        check.same("7: another one", row.quoteByTrying(9, 0, 13, 0, 1), 8);
        check.same("8: alone", row.quotedBus(2, 0, 3, 0, 1), 0);
        check.same("8: another one", row.quotedBus(9, 0, 13, 0, 1), 1);
        check.same("6: another one", row.quote(2, 0, 4, 0, 1), 8);
        check.same("7: and again", row.quoteByTrying(1, 0, 2, 0, 1), 4);
        ShuttleRow trying = new ShuttleRow();
        trying.addBus(2, 60, 3, 3);
        check.same("7: the first call of all", trying.quoteByTrying(3, 4, 3, 5, 1), 4);
        ShuttleRow asking = new ShuttleRow();
        asking.addBus(2, 60, 3, 3);
        check.same("8: the first call of all", asking.quotedBus(3, 4, 3, 5, 1), 0);
    }

    private static void wholeCharge() {
        ShuttleRow row = new ShuttleRow();
        row.addBus(2, 20, 0, 0);
        due("as long as the charge", row, new int[] {1, 0, 10, 0, 1}, 20, 0);
        row.request(1, 0, 9, 0, 1);
        due("2 more are left", row, new int[] {2, 0, 10, 0, 1}, 2, 0);
        throwing("not 4 more", row, new int[] {2, 0, 11, 0, 1}, NoSuchElementException.class);
    }
}

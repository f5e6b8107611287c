import java.io.File;
import java.io.IOException;
import java.lang.reflect.Method;
import java.lang.reflect.Modifier;
import java.nio.file.Files;
import java.nio.file.Path;
import java.util.ArrayList;
import java.util.List;
import java.util.Set;
import java.util.TreeSet;
import java.util.regex.Matcher;
import java.util.regex.Pattern;

/** What README.md says: its example, and that its tables name all calls and all tests. Runs in the project's folder. */
public final class ReadmeTest {
    private static final Check check = new Check("ReadmeTest");

    public static void main(String[] args) throws IOException {
        List<String> readme = Files.readAllLines(Path.of("README.md"));
        example();
        sameExample(readme);
        check.same("the calls in the table", namedIn(tables(readme), "([a-z]\\w*)"), calls());
        check.same("the tests in the table", namedIn(tables(readme), "(\\w+Test)"), tests());
        check.end();
    }

    /** The lines up to the first check are README.md's, to the letter. */
    private static void example() {
        ShuttleRow row = new ShuttleRow();
        int bus = row.addBus(2, 60, 0, 0);           // 0: the first bus, with seats, capacity and depot
        int adds = row.quote(2, 0, 6, 0, 1);         // 12: what the plan of this request would add
        int request = row.request(2, 0, 6, 0, 1);    // 0: from (2,0) to (6,0), one rider
        char status = row.status(request);           // 'w': it waits for its pickup
        int length = row.length(bus);                // 12: over both stops and back to the depot
        int pickup = row.stopTime(bus, 0);           // 2: when the first stop will be made
        int refused = row.request(3, 0, 5, 0, 3);    // 1: refused requests have numbers, too
        char reason = row.reason(refused);           // 's': three riders for two seats
        int made = row.pass(7);                      // 2: both stops were made in these minutes
        int drop = row.dropTime(request);            // 6: when the rider was dropped
        int empty = row.empty(bus);                  // 3: two to the pickup, one towards the depot
        int last = row.entryRequest(1);              // 0: the request of the second entry of the journal
        check.same("4: bus", bus, 0);
        check.same("6: adds", adds, 12);
        check.same("5: request", request, 0);
        check.same("10: status", status, 'w');
        check.same("22: length", length, 12);
        check.same("21: pickup", pickup, 2);
        check.same("5: refused", refused, 1);
        check.same("11: reason", reason, 's');
        check.same("26: made", made, 2);
        check.same("16: drop", drop, 6);
        check.same("33: empty", empty, 3);
        check.same("38: last", last, 0);
    }

    private static void sameExample(List<String> readme) throws IOException {
        int begin = readme.indexOf("```java");
        int end = readme.lastIndexOf("```");
        check.same("README.md has an example", begin >= 0 && begin < end, true);
        if (begin < 0 || begin >= end) {
            return;
        }
        List<String> shown = readme.subList(begin + 1, end);
        List<String> tested = new ArrayList<>();
        for (String line : Files.readAllLines(Path.of("src/test/java/ReadmeTest.java"))) {
            tested.add(line.strip());
        }
        int at = tested.indexOf(shown.get(0));
        check.same("the example begins here, too", at >= 0, true);
        for (int k = 0; at >= 0 && k < shown.size(); k++) {
            check.same("line " + k + " of the example", shown.get(k), tested.get(at + k));
        }
        check.same("behind the example", at >= 0 && tested.get(at + shown.size()).startsWith("check."), true);
    }

    /** The first column of all tables. */
    private static String tables(List<String> readme) {
        StringBuilder text = new StringBuilder();
        for (String line : readme) {
            if (line.startsWith("|")) {
                text.append(line.split("\\|")[1]).append('\n');
            }
        }
        return text.toString();
    }

    private static String namedIn(String text, String name) {
        Set<String> names = new TreeSet<>();
        Matcher matcher = Pattern.compile("`" + name + "`").matcher(text);
        while (matcher.find()) {
            names.add(matcher.group(1));
        }
        return names.toString();
    }

    private static String calls() {
        Set<String> names = new TreeSet<>();
        for (Method method : ShuttleRow.class.getDeclaredMethods()) {
            if (Modifier.isPublic(method.getModifiers())) {
                names.add(method.getName());
            }
        }
        return names.toString();
    }

    private static String tests() {
        Set<String> names = new TreeSet<>();
        String[] files = new File("src/test/java").list();
        for (String file : files == null ? new String[0] : files) {
            if (file.endsWith("Test.java")) {
                names.add(file.substring(0, file.length() - ".java".length()));
            }
        }
        return names.toString();
    }
}

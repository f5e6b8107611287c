import java.lang.reflect.Constructor;
import java.lang.reflect.Field;
import java.lang.reflect.Method;
import java.lang.reflect.Modifier;
import java.util.Arrays;
import java.util.Set;
import java.util.TreeSet;

/** The face of the document, and the rules of LANGUAGE.md that a compiled class shows. */
public final class FaceTest {
    private static final String ARGUMENT = " throws java.lang.IllegalArgumentException";
    private static final String INDEX = " throws java.lang.IndexOutOfBoundsException";
    private static final String STATE = ",java.lang.IllegalStateException";
    private static final String MISSING = ",java.util.NoSuchElementException";
    private static final String UNSUPPORTED = ",java.lang.UnsupportedOperationException";
    private static final String FIVE = "(int,int,int,int,int)" + ARGUMENT + UNSUPPORTED;

    private static final String[] FACE = {
        "int setDetour(int)" + ARGUMENT, "int setWait(int)" + ARGUMENT, "int addBus(int,int,int,int)" + ARGUMENT + STATE,
        "int request" + FIVE + STATE, "int quote" + FIVE + MISSING, "int quoteByTrying" + FIVE + MISSING,
        "int quotedBus" + FIVE + MISSING, "int cancel(int)" + INDEX + STATE, "char status(int)" + INDEX,
        "char reason(int)" + INDEX + STATE, "int busOf(int)" + INDEX + STATE, "int latestPickup(int)" + INDEX,
        "int longestRide(int)" + INDEX, "int pickupTime(int)" + INDEX + STATE, "int dropTime(int)" + INDEX + STATE,
        "int requests()", "int stops(int)" + INDEX, "int stopRequest(int,int)" + INDEX + MISSING,
        "boolean isPickup(int,int)" + INDEX + MISSING, "int stopTime(int,int)" + INDEX + MISSING,
        "int length(int)" + INDEX, "int bestLength(int)" + INDEX, "int bestLengthByTrying(int)" + INDEX,
        "int improve(int)" + INDEX, "int pass(int)" + ARGUMENT, "int now()", "int x(int)" + INDEX, "int y(int)" + INDEX,
        "int charge(int)" + INDEX, "int onBoard(int)" + INDEX, "int driven(int)" + INDEX, "int empty(int)" + INDEX,
        "int emptyByJournal(int)" + INDEX, "float occupancy(int)" + INDEX + MISSING, "int entries()",
        "int entryBus(int)" + INDEX, "int entryRequest(int)" + INDEX, "int entryTime(int)" + INDEX,
        "int entryDistance(int)" + INDEX, "int worstRide()" + " throws java.util.NoSuchElementException"};

    private static final Check check = new Check("FaceTest");

    public static void main(String[] args) {
        sameFace();
        classesInside();
        staticFields(ShuttleRow.class);
        check.end();
    }

    private static void sameFace() {
        check.same("the class", Modifier.toString(ShuttleRow.class.getModifiers()), "public final");
        Set<String> names = new TreeSet<>();
        Set<String> got = new TreeSet<>();
        for (Method method : ShuttleRow.class.getDeclaredMethods()) {
            if (!Modifier.isPrivate(method.getModifiers()) && !method.isSynthetic()) {
                names.add(method.getName());
                got.add(method.toGenericString().replace("ShuttleRow.", ""));
            }
        }
        Set<String> due = new TreeSet<>();
        for (String method : FACE) {
            due.add("public " + method);
        }
        check.same("the methods", String.join("\n", got), String.join("\n", due));
        for (Method method : ShuttleRow.class.getDeclaredMethods()) {
            if (Modifier.isPrivate(method.getModifiers())) {
                check.same("a private method bears a public name, " + method.getName(),
                        names.contains(method.getName()), false);
            }
        }
        Constructor<?>[] constructors = ShuttleRow.class.getDeclaredConstructors();
        check.same("the constructor", Arrays.toString(constructors), "[public ShuttleRow()]");
        for (Field field : ShuttleRow.class.getDeclaredFields()) {
            boolean isHidden = Modifier.isPrivate(field.getModifiers()) || field.isSynthetic();
            check.same("private: " + field.getName(), isHidden, true);
        }
    }

    private static void classesInside() {
        Class<?>[] inside = ShuttleRow.class.getDeclaredClasses();
        check.same("at most twelve classes", inside.length <= 11, true);
        for (Class<?> one : inside) {
            check.same("static: " + one.getName(), Modifier.isStatic(one.getModifiers()), true);
            boolean isShown = Modifier.isPublic(one.getModifiers()) || Modifier.isProtected(one.getModifiers());
            check.same("public or protected: " + one.getName(), isShown, false);
            staticFields(one);
        }
    }

    private static void staticFields(Class<?> one) {
        int others = 0;
        for (Field field : one.getDeclaredFields()) {
            if (Modifier.isStatic(field.getModifiers())) {
                check.same("final: " + field.getName(), Modifier.isFinal(field.getModifiers()), true);
            } else {
                others++;
            }
        }
        check.same("at most twenty fields: " + one.getName(), others <= 20, true);
        for (Method method : one.getDeclaredMethods()) {
            check.same("at most seven parameters: " + method.getName(), method.getParameterCount() <= 7, true);
        }
    }
}

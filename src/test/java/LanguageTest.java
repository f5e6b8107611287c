import java.io.DataInputStream;
import java.io.File;
import java.io.FileInputStream;
import java.io.IOException;
import java.net.URISyntaxException;
import java.nio.file.Files;
import java.nio.file.Path;
import java.util.Set;
import java.util.TreeSet;
import java.util.regex.Matcher;
import java.util.regex.Pattern;

/**
 * The rules of LANGUAGE.md that the class's text shows, and those that its compiled form shows: what of
 * the library it uses. FaceTest has those about members. Runs in the project's folder.
 */
public final class LanguageTest {
    private static final Path SOURCE = Path.of("src/main/java/ShuttleRow.java");
    private static final int MOST_LINES = 60;
    private static final String THROWN = "(IllegalState|IllegalArgument|IndexOutOfBounds|Arithmetic"
            + "|UnsupportedOperation|NoSuchElement|Runtime)Exception";

    /** Rules 3, 4 and 6: a class of the library, and what of it may be used. */
    private static final String[] LIBRARY = {
        "java/lang/Object <init>", "java/lang/Record <init>", "java/lang/Enum <init>|ordinal|name|valueOf",
        "java/lang/String length|charAt|isEmpty|equals|indexOf|substring|toCharArray|<init>",
        "java/lang/StringBuilder <init>|append|charAt|setCharAt|setLength|deleteCharAt|reverse|length|toString",
        "java/util/(ArrayList|List) <init>|add|get|set|remove|size|isEmpty|clear|iterator|of",
        "java/lang/(Integer|Long|Math) (?!.*Exact$)\\w+", "java/util/Iterator hasNext|next",
        "java/lang/Iterable iterator", "java/lang/Comparable compareTo", "java/lang/System arraycopy",
        "java/util/Arrays copyOf|copyOfRange|fill", "java/(lang|util)/" + THROWN + " <init>",
        // These two the compiler puts in, for records and for inner classes.
        "java/lang/runtime/ObjectMethods bootstrap", "java/util/Objects requireNonNull"};

    private static final Check check = new Check("LanguageTest");

    public static void main(String[] args) throws IOException, URISyntaxException {
        String source = Files.readString(SOURCE);
        String code = withoutCommentsAndTexts(source);
        check.same("3: signs beyond 126", found(code, "[^\\n\\x20-\\x7e]"), "");
        check.same("a package line", found(code, "(?m)^\\s*package\\b"), "");
        check.same("4: imports", found(code,
                "import (?!java\\.util\\.(ArrayList|List|Iterator|Arrays|NoSuchElementException);)"), "");
        check.same("6, 2: words", found(code, "\\b(finally|synchronized|assert|volatile|native)\\b|::"), "");
        check.same("5: a static block", found(code, "\\bstatic\\s*\\{"), "");
        check.same("6: throw", found(code, "\\bthrow\\b(?! new " + THROWN + "\\(\\s*(\"\")?\\);)"), "");
        check.same("6: catch", found(code, "\\bcatch \\((?!" + THROWN + "( \\| " + THROWN + ")* \\w+\\))"), "");
        check.same("6: the exception itself", found(code, "\\.(getMessage|getCause|printStackTrace)\\b"), "");
        shortMethods(code);
        library();
        check.end();
    }

    private static String withoutCommentsAndTexts(String source) {
        String plain = source.replaceAll("(?s)/\\*.*?\\*/", "").replaceAll("//[^\\n]*", "");
        return plain.replaceAll("\"([^\"\\\\\\n]|\\\\.)*\"", "\"\"").replaceAll("'([^'\\\\]|\\\\.)'", "' '");
    }

    /** All that the pattern matches, so that the test's line names it. */
    private static String found(String code, String pattern) {
        StringBuilder text = new StringBuilder();
        Matcher matcher = Pattern.compile(pattern).matcher(code);
        while (matcher.find()) {
            int end = code.indexOf('\n', matcher.end());
            text.append(code, matcher.start(), end < 0 ? code.length() : end).append('\n');
        }
        return text.toString();
    }

    /** Rule 11: a method ends at the brace that stands as far left as its head. */
    private static void shortMethods(String code) {
        String[] lines = code.split("\n");
        Pattern head = Pattern.compile("^( {4}| {8})(public|private|static)\\b[^=;]*\\(.*");
        int methods = 0;
        for (int k = 0; k < lines.length; k++) {
            Matcher matcher = head.matcher(lines[k]);
            if (matcher.matches()) {
                int end = k;
                while (end < lines.length && !lines[end].equals(matcher.group(1) + "}")) {
                    end++;
                }
                methods++;
                check.same("11: short, " + lines[k].strip(), end - k < MOST_LINES, true);
            }
        }
        check.same("11: methods are found", methods >= 41, true);
    }

    private static void library() throws IOException, URISyntaxException {
        File folder = new File(ShuttleRow.class.getProtectionDomain().getCodeSource().getLocation().toURI());
        File[] compiled = folder.listFiles((where, name) -> name.matches("ShuttleRow(\\$.*)?\\.class"));
        Set<String> used = new TreeSet<>();
        for (File one : compiled == null ? new File[0] : compiled) {
            try (DataInputStream bytes = new DataInputStream(new FileInputStream(one))) {
                used.addAll(new Constants(bytes).members());
            }
        }
        StringBuilder others = new StringBuilder();
        for (String member : used) {
            if (!member.contains("ShuttleRow") && !isAllowed(member)) {
                others.append(member).append('\n');
            }
        }
        check.same("4: the library", others.toString(), "");
        check.same("4: uses are found", used.contains("java/lang/Math.abs"), true);
    }

    private static boolean isAllowed(String member) {
        for (String line : LIBRARY) {
            int gap = line.indexOf(' ');
            if (member.matches(line.substring(0, gap) + "\\.(" + line.substring(gap + 1) + ")")) {
                return true;
            }
        }
        return member.startsWith("[") && member.endsWith(".clone");
    }

    /** The table of constants at the head of a compiled class: it names each method and field that is used. */
    private static final class Constants {
        private final Object[] entries;

        Constants(DataInputStream in) throws IOException {
            in.readLong();
            entries = new Object[in.readUnsignedShort()];
            for (int k = 1; k < entries.length; k++) {
                int tag = in.readUnsignedByte();
                entries[k] = entry(tag, in);
                // A long and a double take two places.
                k += tag == 5 || tag == 6 ? 1 : 0;
            }
        }

        /** A text, or the tag with one or two numbers of other entries. */
        private static Object entry(int tag, DataInputStream in) throws IOException {
            switch (tag) {
                case 1:
                    return in.readUTF();
                case 5: case 6:
                    return in.readLong();
                case 7: case 8: case 16:
                    return new int[] {tag, in.readUnsignedShort()};
                case 15:
                    return new int[] {tag, in.readUnsignedByte(), in.readUnsignedShort()};
                case 3: case 4: case 9: case 10: case 11: case 12: case 17: case 18:
                    return new int[] {tag, in.readUnsignedShort(), in.readUnsignedShort()};
                default:
                    throw new IOException("tag " + tag);
            }
        }

        Set<String> members() {
            Set<String> names = new TreeSet<>();
            for (Object entry : entries) {
                if (entry instanceof int[] e && (e[0] == 9 || e[0] == 10 || e[0] == 11)) {
                    names.add(text(((int[]) entries[e[1]])[1]) + "." + text(((int[]) entries[e[2]])[1]));
                }
            }
            return names;
        }

        private String text(int index) {
            return (String) entries[index];
        }
    }
}

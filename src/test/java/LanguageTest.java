import java.io.IOException;
import java.nio.file.Files;
import java.nio.file.Path;
import java.util.ArrayDeque;
import java.util.Deque;
import java.util.List;
import java.util.Map;
import java.util.TreeMap;
import java.util.TreeSet;
import java.util.regex.Matcher;
import java.util.regex.Pattern;

/**
 * What of ../shared/LANGUAGE.md can be read off the text of the class: words that it leaves out, what is thrown,
 * and rule 11's sizes. Methods of the same name count as one, so that a chain of calls is never told too short.
 */
public final class LanguageTest {
    private static final Path CLASS = Path.of("src/main/java/EnergyLedger.java");
    private static final int MOST_LINES = 60;
    private static final int MOST_PARAMETERS = 7;
    private static final int MOST_CLASSES = 12;
    private static final int MOST_FIELDS = 20;
    private static final int MOST_DEPTH = 8;

    private static final List<String> LEFT_OUT = List.of(
        "package", "import", "protected", "try", "catch", "finally", "synchronized", "assert", "volatile", "native",
        "Object", "equals", "hashCode", "toString", "System", "Thread", "Runtime", "Random", "Class", "getMessage",
        "NaN", "float", "\\w+Exact", "static\\s*\\{", "->", "::");
    private static final String THROWN = "(IllegalState|IllegalArgument|IndexOutOfBounds)Exception";
    private static final Pattern HEADER =
        Pattern.compile("^ {4}(?: {4})?(?:(?:public|private|static|final) )*[\\w\\[\\]]+ (\\w+)\\(([^)]*)\\)[^;=]*$");
    private static final Pattern CALL = Pattern.compile("(?<!new )\\b(\\w+)\\(");
    private static final TreeSet<String> NO_CALLS = new TreeSet<>(List.of("if", "for", "while", "switch", "return"));

    private final Map<String, TreeSet<String>> calls = new TreeMap<>();
    private final Deque<String> open = new ArrayDeque<>();

    public static void main(String[] args) throws IOException {
        String text = Files.readString(CLASS);
        String code = withoutComments(text);
        signs(text);
        words(code);
        thrown(code);
        fields();
        LanguageTest test = new LanguageTest();
        test.methods(code);
        test.depths();
        Check.end("LanguageTest");
    }

    private static String withoutComments(String text) {
        return text.replaceAll("(?s)/\\*.*?\\*/", "").replaceAll("//[^\n]*", "").replaceAll("\"[^\"\n]*\"", "\"\"");
    }

    private static void signs(String text) {
        Check.isTrue("signs 1 to 127 alone", text.chars().allMatch(c -> c > 0 && c < 128));
    }

    private static void words(String code) {
        for (String word : LEFT_OUT) {
            boolean isName = Character.isLetter(word.charAt(0));
            String pattern = isName ? "\\b" + word + (word.endsWith("{") ? "" : "\\b") : word;
            Check.isTrue("no " + word, !Pattern.compile(pattern).matcher(code).find());
        }
    }

    private static void thrown(String code) {
        Matcher matcher = Pattern.compile("\\bthrow\\b[^;]*;").matcher(code);
        while (matcher.find()) {
            String written = matcher.group();
            Check.isTrue(written + " is one of the document's",
                written.matches("throw new " + THROWN + "\\((\"\")?\\);"));
        }
    }

    private static void fields() {
        Class<?>[] inside = EnergyLedger.class.getDeclaredClasses();
        Check.isTrue("at most twelve classes", inside.length + 1 <= MOST_CLASSES);
        fields(EnergyLedger.class);
        for (Class<?> one : inside) {
            fields(one);
        }
    }

    private static void fields(Class<?> one) {
        int count = 0;
        for (java.lang.reflect.Field field : one.getDeclaredFields()) {
            count += java.lang.reflect.Modifier.isStatic(field.getModifiers()) ? 0 : 1;
        }
        Check.isTrue(one + " has " + count + " fields", count <= MOST_FIELDS);
    }

    private void methods(String code) {
        String[] lines = code.split("\n");
        for (int k = 0; k < lines.length; k++) {
            Matcher header = HEADER.matcher(lines[k]);
            if (header.find()) {
                String name = header.group(1);
                int last = lastLine(lines, k);
                Check.isTrue(name + " is short", last - k < MOST_LINES);
                Check.isTrue(name + " has few parameters", header.group(2).split(",").length <= MOST_PARAMETERS);
                keepCalls(name, lines, k + 1, last);
            }
        }
        Check.isTrue("the methods were found, and what they call",
            calls.size() > 50 && calls.getOrDefault("close", new TreeSet<>()).contains("run"));
    }

    /** A method ends with the brace that stands as far left as its header. */
    private static int lastLine(String[] lines, int first) {
        String end = lines[first].startsWith("        ") ? "        }" : "    }";
        int last = first;
        while (last < lines.length - 1 && !lines[last].equals(end)) {
            last++;
        }
        return last;
    }

    private void keepCalls(String name, String[] lines, int first, int last) {
        TreeSet<String> called = calls.computeIfAbsent(name, n -> new TreeSet<>());
        for (int k = first; k < last; k++) {
            Matcher call = CALL.matcher(lines[k]);
            while (call.find()) {
                if (!NO_CALLS.contains(call.group(1))) {
                    called.add(call.group(1));
                }
            }
        }
    }

    private void depths() {
        for (String name : calls.keySet()) {
            int depth = depth(name);
            Check.isTrue(name + " goes " + depth + " deep", depth <= MOST_DEPTH);
        }
    }

    /** What the file does not hold is the library's, and one deep. */
    private int depth(String name) {
        Check.isTrue("no recursion: " + name + " in " + open, !open.contains(name));
        if (open.contains(name)) {
            return 1;
        }
        open.push(name);
        int most = 0;
        for (String called : calls.getOrDefault(name, new TreeSet<>())) {
            most = Math.max(most, depth(called));
        }
        open.pop();
        return most + 1;
    }
}

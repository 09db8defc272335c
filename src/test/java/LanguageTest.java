import java.nio.file.Files;
import java.nio.file.Path;
import java.util.Map;
import java.util.List;
import java.util.Set;
import java.util.TreeMap;
import java.util.TreeSet;
import java.util.regex.Matcher;
import java.util.regex.Pattern;

/** What a look at the text can tell of the rules of LANGUAGE.md; run from the project's folder. */
final class LanguageTest {
    private static final Check CHECK = new Check("LanguageTest");
    private static final int LONGEST_METHOD = 60;
    private static final int MOST_CLASSES = 12;
    private static final int MOST_FIELDS = 20;
    // The rule allows eight; one is kept free, as it may count the caller, too.
    private static final int DEEPEST_CALLS = 7;
    private static final String PROGRAM = "src/main/java/GearBench.java";

    /** Words that the rules forbid or that this program needs none of. */
    private static final String[] FORBIDDEN = {"import", "package", "try", "catch", "finally", "synchronized",
        "assert", "native", "volatile", "transient", "protected", "instanceof", "yield", "var", "float", "Object",
        "Integer", "Long", "Double", "Arrays", "Thread", "Random", "NaN", "equals", "hashCode", "toString",
        "getMessage", "strictfp", "goto"};
    private static final Pattern CAPITAL = Pattern.compile("\\b[A-Z][A-Za-z]*[a-z][A-Za-z]*\\b");
    private static final List<String> NAMES = List.of("GearBench", "Bench", "Works", "Row", "Text", "History",
        "System", "IllegalStateException", "IllegalArgumentException", "IndexOutOfBoundsException");

    public static void main(String[] args) {
        CHECK.test("LANGUAGE.md", LanguageTest::allRules);
        CHECK.test("LANGUAGE.md, rule 11: how deep calls go", LanguageTest::callsAreNotDeep);
        CHECK.end();
    }

    private static void allRules() throws Exception {
        String whole = Files.readString(Path.of(PROGRAM));
        String text = withoutComments(whole);
        for (int i = 0; i < whole.length(); i++) {
            if (whole.charAt(i) > 126 || whole.charAt(i) < 32 && whole.charAt(i) != '\n') {
                CHECK.equal("the sign at " + i, whole.charAt(i), ' ');
            }
        }
        for (String word : FORBIDDEN) {
            CHECK.equal("rule 3, 4 or 6: " + word, occurrences(text, "\\b" + Pattern.quote(word) + "(?!\\w)"), 0);
        }
        CHECK.equal("rule 2: lambdas", occurrences(text, "->|::"), 0);
        CHECK.equal("rule 5: initialiser blocks", occurrences(text, "static\\s*\\{"), 0);
        CHECK.equal("rule 10: joining texts", occurrences(text, "\"\\s*\\+|\\+\\s*\""), 0);
        CHECK.equal("rule 9: loops without a counter", occurrences(text, "\\b(while|do)\\b"), 0);
        CHECK.equal("rule 4: System", occurrences(text, "\\bSystem\\."), occurrences(text, "\\bSystem\\.arraycopy\\("));
        CHECK.equal("rule 6: throws", occurrences(text, "\\bthrow\\b"),
                occurrences(text, "throw new (IllegalState|IllegalArgument|IndexOutOfBounds)Exception\\(\"[^\"]*\"\\);"));
        onlyKnownNames(text);
        methodsAreShort(text);
        sizes();
    }

    private static String withoutComments(String text) {
        return text.replaceAll("(?s)/\\*.*?\\*/", "").replaceAll("//[^\n]*", "");
    }

    private static int occurrences(String text, String pattern) {
        int found = 0;
        Matcher matcher = Pattern.compile(pattern).matcher(text);
        while (matcher.find()) {
            found++;
        }
        return found;
    }

    private static void onlyKnownNames(String text) {
        Matcher matcher = CAPITAL.matcher(text.replaceAll("\"[^\"]*\"", "\"\""));
        while (matcher.find()) {
            CHECK.equal("rule 4: " + matcher.group(), NAMES.contains(matcher.group()) ? 1 : 0, 1);
        }
    }

    private static void methodsAreShort(String text) {
        int start = 0;
        String[] lines = text.split("\n");
        for (int i = 0; i < lines.length; i++) {
            if (lines[i].matches(" {4}( {4})?(public|private)[^=;]*\\(.*")) {
                start = i;
            }
            if (lines[i].matches(" {4}( {4})?}") && start > 0) {
                CHECK.equal("rule 11: lines from " + lines[start].trim(), i - start < LONGEST_METHOD ? 1 : 0, 1);
                start = 0;
            }
        }
    }

    private static void sizes() {
        Class<?>[] inside = GearBench.class.getDeclaredClasses();
        CHECK.equal("rule 11: classes", inside.length < MOST_CLASSES ? 1 : 0, 1);
        for (Class<?> type : inside) {
            CHECK.equal("rule 11: fields", type.getDeclaredFields().length <= MOST_FIELDS ? 1 : 0, 1);
            for (java.lang.reflect.Method method : type.getDeclaredMethods()) {
                CHECK.equal("rule 11: parameters", method.getParameterCount() <= 7 ? 1 : 0, 1);
            }
        }
    }

    private static void callsAreNotDeep() throws Exception {
        Map<String, Set<String>> calls = callsByName(withoutComments(Files.readString(Path.of(PROGRAM))));
        for (String name : calls.keySet()) {
            int depth = depth(calls, name, 1);
            CHECK.equal("calls from " + name + " go " + depth + " deep", depth <= DEEPEST_CALLS ? 1 : 0, 1);
        }
    }

    /** Which methods each method calls; those of unlike classes with one name count as one. */
    private static Map<String, Set<String>> callsByName(String text) {
        Map<String, String> bodies = new TreeMap<>();
        Matcher method = Pattern.compile("(?ms)^( {4}| {8})(?:public|private)[^=;{}]*?\\b([a-z]\\w*)\\([^{};]*\\{(.*?)^\\1\\}")
                .matcher(text);
        while (method.find()) {
            bodies.merge(method.group(2), method.group(3), String::concat);
        }
        Map<String, Set<String>> calls = new TreeMap<>();
        for (Map.Entry<String, String> body : bodies.entrySet()) {
            Set<String> called = new TreeSet<>();
            Matcher call = Pattern.compile("\\b([a-z]\\w*)\\(").matcher(body.getValue());
            while (call.find()) {
                if (bodies.containsKey(call.group(1))) {
                    called.add(call.group(1));
                }
            }
            calls.put(body.getKey(), called);
        }
        return calls;
    }

    /** How many calls stand open at most; no deeper than one too many, so that it ends with recursion, too. */
    private static int depth(Map<String, Set<String>> calls, String name, int open) {
        int deepest = open;
        if (open <= DEEPEST_CALLS) {
            for (String called : calls.get(name)) {
                deepest = Math.max(deepest, depth(calls, called, open + 1));
            }
        }
        return deepest;
    }
}

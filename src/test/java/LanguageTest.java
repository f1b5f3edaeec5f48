import java.io.IOException;
import java.lang.reflect.Field;
import java.lang.reflect.Modifier;
import java.nio.charset.StandardCharsets;
import java.nio.file.Files;
import java.nio.file.Path;
import java.util.HashSet;
import java.util.List;
import java.util.Map;
import java.util.Set;
import java.util.TreeMap;
import java.util.regex.Matcher;
import java.util.regex.Pattern;

/** What can be seen of LANGUAGE.md in the words of the source; run from the project's root, as .ci/run does. */
public final class LanguageTest {
    private static final Path SOURCE = Path.of("src/main/java/StrikeBench.java");
    private static final List<String> IMPORTS = List.of("import java.util.ArrayList;", "import java.util.List;",
            "import java.util.Arrays;", "import java.util.Iterator;", "import java.util.NoSuchElementException;");
    /** Rules 1, 2, 4, 5, 6 and 13: what may not be written at all. */
    private static final String[] NEVER = {"->", "::", "\\bfinally\\b", "\\bsynchronized\\b", "\\bassert\\b", "\\w+Exact\\b",
        "\\bgetMessage\\b", "\\bhashCode\\b", "\\bThread\\b", "\\bcurrentTimeMillis\\b", "\\bnanoTime\\b",
        "\\bRandom\\b", "\\bstatic \\{", "\\bprotected\\b"};
    /** Rule 6, and that nothing is answered by catching what the machine throws. */
    private static final String[] NEVER_CAUGHT = {"Throwable", "Exception", "RuntimeException", "NullPointerException",
        "IndexOutOfBoundsException", "ArrayIndexOutOfBoundsException", "ArithmeticException", "ClassCastException",
        "NegativeArraySizeException", "ArrayStoreException", "Error"};

    /** By a method's name: its head, and the methods of the class that its body calls. */
    private static final Map<String, String> HEADS = new TreeMap<>();
    private static final Map<String, Set<String>> CALLS = new TreeMap<>();

    private LanguageTest() {
    }

    public static void main(String[] args) throws IOException {
        String source = Files.readString(SOURCE, StandardCharsets.ISO_8859_1);
        String code = source.replaceAll("(?s)/\\*.*?\\*/", "").replaceAll("//[^\n]*", "");
        for (String line : code.split("\n")) {
            Bench.holds("rule 4: " + line, !line.startsWith("import") || IMPORTS.contains(line));
            Bench.holds("no package: " + line, !line.startsWith("package"));
        }
        for (String never : NEVER) {
            Matcher found = Pattern.compile(never).matcher(code);
            Bench.holds("not in the language: " + never, !found.find());
        }
        for (String kind : NEVER_CAUGHT) {
            Bench.holds("caught: " + kind, !Pattern.compile("catch \\([^)]*\\b" + kind + "\\b").matcher(code).find());
        }
        signs(source);
        thrown(code);
        staticFields(code);
        methods(code);
        depth();
        classes();
        Bench.end();
    }

    private static void signs(String source) {
        for (int i = 0; i < source.length(); i++) {
            char sign = source.charAt(i);
            if (sign > 127 || sign < 32 && sign != '\n') {
                Bench.holds("rule 4: sign " + (int) sign + " at " + i, false);
            }
        }
    }

    /** Rule 6: only with a written text or none, and of the classes that it names. */
    private static void thrown(String code) {
        Pattern due = Pattern.compile("throw new (IllegalState|IllegalArgument|IndexOutOfBounds|Arithmetic|UnsupportedOperation"
                + "|NoSuchElement|Runtime)Exception\\((\"[^\"]*\")?\\);.*");
        Matcher found = Pattern.compile("\\bthrow\\b[^\n]*").matcher(code);
        while (found.find()) {
            Bench.holds("rule 6: " + found.group(), due.matcher(found.group()).matches());
        }
    }

    /** Rule 5: static fields are final. */
    private static void staticFields(String code) {
        Matcher found = Pattern.compile("\\bstatic [^({;]*[=;]").matcher(code);
        while (found.find()) {
            Bench.holds("rule 5: " + found.group(), found.group().startsWith("static final "));
        }
    }

    /** Rule 11: seven parameters at most, some sixty lines. */
    private static void methods(String code) {
        Matcher found = Pattern.compile("(?m)^( +)(?:[\\w\\[\\]]+ )+\\w+\\(([^)]*)\\)[^;{]*\\{$").matcher(code);
        int methods = 0;
        while (found.find()) {
            methods++;
            int end = code.indexOf("\n" + found.group(1) + "}", found.end());
            String body = code.substring(found.end(), end);
            long lines = code.substring(found.start(), end).lines().count();
            String name = found.group().replaceAll("(?s)\\(.*", "").replaceAll(".* ", "");
            HEADS.merge(name, found.group().strip(), (one, two) -> one + two);
            Set<String> calls = CALLS.computeIfAbsent(name, any -> new HashSet<>());
            Pattern.compile("\\b(\\w+)\\(").matcher(body).results().forEach(call -> calls.add(call.group(1)));
            Bench.holds("rule 11: lines of " + found.group().strip(), lines <= 60);
            Bench.holds("rule 11: parameters of " + found.group().strip(), found.group(2).split(",").length <= 7);
        }
        Bench.holds("the face alone has 26 methods", methods > 26);
        for (Set<String> calls : CALLS.values()) {
            calls.retainAll(HEADS.keySet());
        }
    }

    private static void reach(String name, Set<String> reached) {
        for (String called : CALLS.get(name)) {
            if (reached.add(called)) {
                reach(called, reached);
            }
        }
    }

    /** The methods of one recursion; the method alone, if it is in none. */
    private static Set<String> recursionOf(String name) {
        Set<String> reached = new HashSet<>();
        reach(name, reached);
        Set<String> together = new HashSet<>(Set.of(name));
        for (String other : reached) {
            Set<String> back = new HashSet<>();
            reach(other, back);
            if (back.contains(name)) {
                together.add(other);
            }
        }
        return together;
    }

    private static int depthOf(String name) {
        Set<String> together = recursionOf(name);
        int deepest = 0;
        for (String one : together) {
            for (String called : CALLS.get(one)) {
                if (!together.contains(called)) {
                    deepest = Math.max(deepest, depthOf(called));
                }
            }
        }
        return deepest + 1;
    }

    /** Rule 11: calls that are no recursion go eight deep; rule 8: recursion is private and is told how deep it is. */
    private static void depth() {
        int recursive = 0;
        for (String name : HEADS.keySet()) {
            Bench.holds("rule 11: " + name + " goes " + depthOf(name) + " deep", depthOf(name) <= 8);
            Set<String> reached = new HashSet<>();
            reach(name, reached);
            if (reached.contains(name)) {
                recursive++;
                Bench.holds("rule 8: " + HEADS.get(name), HEADS.get(name).matches("private .*\\bint nested\\).*"));
            }
        }
        Bench.holds("conditions are read by recursion", recursive > 0);
    }

    /** Rule 11: some twelve classes, some twenty fields in each. */
    private static void classes() {
        Class<?>[] inside = StrikeBench.class.getDeclaredClasses();
        Bench.holds("rule 11: " + inside.length + " classes inside", inside.length + 1 <= 12);
        fields(StrikeBench.class);
        for (Class<?> one : inside) {
            fields(one);
        }
    }

    private static void fields(Class<?> one) {
        int fields = 0;
        for (Field field : one.getDeclaredFields()) {
            fields += Modifier.isStatic(field.getModifiers()) ? 0 : 1;
        }
        Bench.holds("rule 11: " + one + " has " + fields + " fields", fields <= 20);
    }
}

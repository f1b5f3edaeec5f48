import java.io.IOException;
import java.nio.charset.StandardCharsets;
import java.nio.file.Files;
import java.nio.file.Path;
import java.util.List;
import java.util.regex.Matcher;
import java.util.regex.Pattern;

/** What can be seen of LANGUAGE.md in the words of the source; run from the project's root, as .ci/run does. */
public final class LanguageTest {
    private static final Path SOURCE = Path.of("src/main/java/StrikeBench.java");
    private static final List<String> IMPORTS = List.of("import java.util.ArrayList;", "import java.util.List;",
            "import java.util.Arrays;", "import java.util.Iterator;", "import java.util.NoSuchElementException;");
    /** Rules 1, 2, 4, 5, 6 and 13: what may not be written at all. */
    private static final String[] NEVER = {"->", "::", "\\bfinally\\b", "\\bsynchronized\\b", "\\bassert\\b", "\\w+Exact\\b",
        "\\bgetMessage\\b", "\\bhashCode\\b", "\\bThread\\b", "\\bcurrentTimeMillis\\b", "\\bnanoTime\\b",
        "\\bRandom\\b", "\\bstatic \\{", "\\bprotected\\b"};
    /** Rule 6, and that nothing is answered by catching what the machine throws. */
    private static final String[] NEVER_CAUGHT = {"Throwable", "Exception", "RuntimeException", "NullPointerException",
        "IndexOutOfBoundsException", "ArrayIndexOutOfBoundsException", "ArithmeticException", "ClassCastException",
        "NegativeArraySizeException", "ArrayStoreException", "Error"};

    private LanguageTest() {
    }

    public static void main(String[] args) throws IOException {
        String source = Files.readString(SOURCE, StandardCharsets.ISO_8859_1);
        String code = source.replaceAll("(?s)/\\*.*?\\*/", "").replaceAll("//[^\n]*", "");
        for (String line : code.split("\n")) {
            Bench.holds("rule 4: " + line, !line.startsWith("import") || IMPORTS.contains(line));
            Bench.holds("no package: " + line, !line.startsWith("package"));
        }
        for (String never : NEVER) {
            Matcher found = Pattern.compile(never).matcher(code);
            Bench.holds("not in the language: " + never, !found.find());
        }
        for (String kind : NEVER_CAUGHT) {
            Bench.holds("caught: " + kind, !Pattern.compile("catch \\([^)]*\\b" + kind + "\\b").matcher(code).find());
        }
        signs(source);
        thrown(code);
        staticFields(code);
        methods(code);
        Bench.end();
    }

    private static void signs(String source) {
        for (int i = 0; i < source.length(); i++) {
            char sign = source.charAt(i);
            if (sign > 127 || sign < 32 && sign != '\n') {
                Bench.holds("rule 4: sign " + (int) sign + " at " + i, false);
            }
        }
    }

    /** Rule 6: only with a written text or none, and of the classes that it names. */
    private static void thrown(String code) {
        Pattern due = Pattern.compile("throw new (IllegalState|IllegalArgument|IndexOutOfBounds|Arithmetic|UnsupportedOperation"
                + "|NoSuchElement|Runtime)Exception\\((\"[^\"]*\")?\\);.*");
        Matcher found = Pattern.compile("\\bthrow\\b[^\n]*").matcher(code);
        while (found.find()) {
            Bench.holds("rule 6: " + found.group(), due.matcher(found.group()).matches());
        }
    }

    /** Rule 5: static fields are final. */
    private static void staticFields(String code) {
        Matcher found = Pattern.compile("\\bstatic [^({;]*[=;]").matcher(code);
        while (found.find()) {
            Bench.holds("rule 5: " + found.group(), found.group().startsWith("static final "));
        }
    }

    /** Rule 11: seven parameters at most, some sixty lines. */
    private static void methods(String code) {
        Matcher found = Pattern.compile("(?m)^( +)(?:[\\w\\[\\]]+ )+\\w+\\(([^)]*)\\)[^;{]*\\{$").matcher(code);
        int methods = 0;
        while (found.find()) {
            methods++;
            int end = code.indexOf("\n" + found.group(1) + "}", found.end());
            long lines = code.substring(found.start(), end).lines().count();
            Bench.holds("rule 11: lines of " + found.group().strip(), lines <= 60);
            Bench.holds("rule 11: parameters of " + found.group().strip(), found.group(2).split(",").length <= 7);
        }
        Bench.holds("the face alone has 26 methods", methods > 26);
    }
}

import java.io.IOException;
import java.net.URL;
import java.net.URLClassLoader;
import java.nio.charset.StandardCharsets;
import java.nio.file.Files;
import java.nio.file.Path;
import java.util.ArrayList;
import java.util.Comparator;
import java.util.List;
import java.util.regex.Matcher;
import java.util.regex.Pattern;
import java.util.stream.Stream;
import javax.tools.ToolProvider;

/** The code of README.md compiles and answers what is written behind it; run from the project's root. */
public final class ReadmeTest {
    private static final Pattern BLOCK = Pattern.compile("(?ms)^```java\n(.*?)^```$");
    /** A call, over one line or more, and the answer that is told behind it. */
    private static final Pattern CALL =
            Pattern.compile("(?ms)^((?:bench\\.|tell\\()[^;]*(?:\"[^\"]*\"[^;]*)*\\)); *// (-?\\d+|\\w+Exception)\\b[^\n]*$");

    private ReadmeTest() {
    }

    public static void main(String[] args) throws Exception {
        String readme = Files.readString(Path.of("README.md"), StandardCharsets.UTF_8);
        List<String> calls = new ArrayList<>();
        List<String> told = new ArrayList<>();
        String source = sourceOf(readme, calls, told);
        List<?> answers = answers(source);
        Bench.holds("answers: " + answers.size() + " of " + told.size(), answers.size() == told.size() && told.size() > 30);
        for (int i = 0; i < told.size() && i < answers.size(); i++) {
            Bench.holds(calls.get(i) + " answered " + answers.get(i) + ", README.md says " + told.get(i),
                    told.get(i).equals(answers.get(i)));
        }
        everyAnswerIsRead(readme, told.size());
        namesAll(readme);
        Bench.end();
    }

    /** A block with a method becomes that method, any other one a method that gathers its answers. */
    private static String sourceOf(String readme, List<String> calls, List<String> told) {
        StringBuilder methods = new StringBuilder();
        StringBuilder runs = new StringBuilder();
        Matcher block = BLOCK.matcher(readme);
        int number = 0;
        while (block.find()) {
            if (block.group(1).startsWith("static ")) {
                methods.append(block.group(1));
                continue;
            }
            number++;
            Matcher call = CALL.matcher(block.group(1));
            String body = call.replaceAll(found -> {
                calls.add(found.group(1));
                told.add(found.group(2));
                return Matcher.quoteReplacement("try { answers.add(String.valueOf(" + found.group(1) + ")); }"
                        + " catch (RuntimeException e) { answers.add(e.getClass().getSimpleName()); }");
            });
            methods.append("static void run").append(number).append("(java.util.List<String> answers) {\n").append(body).append("}\n");
            runs.append("run").append(number).append("(answers);\n");
        }
        return "public final class ReadmeCode implements java.util.function.Supplier<java.util.List<String>> {\n"
                + "public java.util.List<String> get() {\njava.util.List<String> answers = new java.util.ArrayList<>();\n"
                + runs + "return answers;\n}\n" + methods + "}\n";
    }

    private static List<?> answers(String source) throws Exception {
        Path place = Files.createTempDirectory("readme");
        try {
            Path file = Files.writeString(place.resolve("ReadmeCode.java"), source);
            int failed = ToolProvider.getSystemJavaCompiler().run(null, System.out, System.out,
                    "-cp", System.getProperty("java.class.path"), "-d", place.toString(), file.toString());
            Bench.holds("the code of README.md does not compile", failed == 0);
            if (failed != 0) {
                return List.of();
            }
            try (URLClassLoader loader = new URLClassLoader(new URL[] {place.toUri().toURL()}, ReadmeTest.class.getClassLoader())) {
                Object code = loader.loadClass("ReadmeCode").getConstructor().newInstance();
                return (List<?>) ((java.util.function.Supplier<?>) code).get();
            }
        } finally {
            remove(place);
        }
    }

    private static void remove(Path place) throws IOException {
        try (Stream<Path> files = Files.walk(place)) {
            for (Path file : files.sorted(Comparator.reverseOrder()).toList()) {
                Files.delete(file);
            }
        }
    }

    /** An answer that the pattern of calls passed over would not be tested. */
    private static void everyAnswerIsRead(String readme, int read) {
        Matcher block = BLOCK.matcher(readme);
        int written = 0;
        while (block.find()) {
            written += (int) Pattern.compile("; *// ").matcher(block.group(1)).results().count();
        }
        Bench.holds(written + " answers are written, " + read + " were read", written == read);
    }

    /** Every call of the face and every test of the project. */
    private static void namesAll(String readme) throws IOException {
        for (var method : StrikeBench.class.getDeclaredMethods()) {
            if (java.lang.reflect.Modifier.isPublic(method.getModifiers())) {
                Bench.holds("README.md does not name " + method.getName(), readme.contains("`" + method.getName() + "`"));
            }
        }
        try (Stream<Path> tests = Files.list(Path.of("src/test/java"))) {
            for (Path test : tests.toList()) {
                String name = test.getFileName().toString().replace(".java", "");
                Bench.holds("README.md does not name " + name, !name.endsWith("Test") || readme.contains("`" + name + "`"));
            }
        }
    }
}

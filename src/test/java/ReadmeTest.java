import java.lang.reflect.Method;
import java.lang.reflect.Modifier;
import java.net.URL;
import java.net.URLClassLoader;
import java.nio.file.Files;
import java.nio.file.Path;
import java.util.ArrayList;
import java.util.List;
import java.util.regex.Matcher;
import java.util.regex.Pattern;
import java.util.stream.Stream;
import javax.tools.JavaCompiler;
import javax.tools.ToolProvider;

/** README.md: what it shows of the class's use compiles and answers so; it tells of every promise and test. */
public final class ReadmeTest {
    /** A call, kept in a variable or not, and behind it the answer and what it means. */
    private static final Pattern LINE = Pattern.compile(
            "(?:(int|long|boolean) (\\w+) = )?(x\\.\\w+\\(.*\\));\\s+// (\\S+): \\S.*");
    private static final String MAKES_IT = "DigesterRates x = new DigesterRates();";
    private static final String TERMS = "| Terms: ";
    private static final Pattern TEST_NAME = Pattern.compile("`(\\w+Test)`");

    public static void main(String[] args) throws Exception {
        Due due = new Due();
        List<String> readme = Project.readme();
        useIsAsShown(due, Project.javaBlocks(readme));
        everyCallIsShown(due, Project.javaBlocks(readme));
        everyPromiseHasATest(due, readme);
        everyTermHasATest(due, readme);
        everyTestIsTold(due, readme);
        testsRunAsTold(due, readme);
        due.end();
    }

    private static void useIsAsShown(Due due, List<String> shown) throws Exception {
        List<String> calls = new ArrayList<>();
        StringBuilder got = new StringBuilder();
        StringBuilder wanted = new StringBuilder();
        due.yes("it makes an object first", !shown.isEmpty() && shown.get(0).equals(MAKES_IT));
        for (String line : shown.subList(1, shown.size())) {
            Matcher parts = LINE.matcher(line);
            due.yes("has an answer: " + line, parts.matches());
            if (parts.matches()) {
                calls.add(line);
                got.append(parts.group(1) == null ? keep(parts.group(3), calls.size())
                        : parts.group(1) + " " + parts.group(2) + " = " + parts.group(3) + ";\n"
                        + keep(parts.group(2), calls.size()));
                wanted.append(calls.size() == 1 ? "" : ", ").append("value(").append(parts.group(4)).append(")");
            }
        }
        long[][] answers = run(calls.size(), got.toString(), wanted.toString());
        for (int i = 0; i < calls.size(); i++) {
            due.same("README.md: " + calls.get(i), answers[0][i], answers[1][i]);
        }
    }

    private static String keep(String expression, int number) {
        return "answers[" + (number - 1) + "] = value(" + expression + ");\n";
    }

    /** What the calls answered, and what README.md says. */
    private static long[][] run(int calls, String got, String wanted) throws Exception {
        String source = "public final class ReadmeUse {\n"
                + "static final int NONE = DigesterRates.NONE;\n"
                + "static long value(boolean answer) { return answer ? 1 : 0; }\n"
                + "static long value(long answer) { return answer; }\n"
                + "public static long[] answered() {\nlong[] answers = new long[" + calls + "];\n"
                + MAKES_IT + "\n" + got + "return answers;\n}\n"
                + "public static long[] due() { return new long[] {" + wanted + "}; }\n}\n";
        Path folder = Files.createTempDirectory("readme");
        try {
            Path file = folder.resolve("ReadmeUse.java");
            Files.writeString(file, source);
            JavaCompiler javac = ToolProvider.getSystemJavaCompiler();
            int failed = javac.run(null, null, null, "--release", "17", "-cp", System.getProperty("java.class.path"),
                    "-d", folder.toString(), file.toString());
            if (failed != 0) {
                throw new IllegalStateException("what README.md shows does not compile:\n" + source);
            }
            try (URLClassLoader loader = new URLClassLoader(new URL[] {folder.toUri().toURL()})) {
                Class<?> use = loader.loadClass("ReadmeUse");
                return new long[][] {(long[]) use.getMethod("answered").invoke(null),
                    (long[]) use.getMethod("due").invoke(null)};
            }
        } finally {
            delete(folder);
        }
    }

    private static void delete(Path folder) throws Exception {
        try (Stream<Path> files = Files.list(folder)) {
            for (Path file : files.toList()) {
                Files.delete(file);
            }
        }
        Files.delete(folder);
    }

    private static void everyCallIsShown(Due due, List<String> shown) {
        String all = String.join("\n", shown);
        for (Method method : DigesterRates.class.getDeclaredMethods()) {
            if (Modifier.isPublic(method.getModifiers())) {
                due.yes("shows " + method.getName(), all.contains("x." + method.getName() + "("));
            }
        }
    }

    /** "## Promise 4: feed" of the document has a row "| Promise 4: feed | `StuffTest`, .. |". */
    private static void everyPromiseHasATest(Due due, List<String> readme) throws Exception {
        int promises = 0;
        for (String line : Project.document()) {
            if (line.startsWith("## Promise ")) {
                promises++;
                String row = "| " + line.substring("## ".length()) + " | ";
                due.yes("a row: " + row, readme.stream().anyMatch(
                        each -> each.startsWith(row) && TEST_NAME.matcher(each).find()));
            }
        }
        due.same("promises", promises, 19);
    }

    /** Each paragraph of "Terms" has a row with its first words: "| Terms: SOURNESS | .. |". */
    private static void everyTermHasATest(Due due, List<String> readme) throws Exception {
        List<String> document = Project.document();
        List<String> terms = document.subList(document.indexOf("## Terms") + 1,
                document.indexOf("## Promise 1: A new object"));
        List<String> rows = new ArrayList<>();
        for (String line : readme) {
            if (line.startsWith(TERMS) && TEST_NAME.matcher(line).find()) {
                rows.add(line.substring(TERMS.length(), line.indexOf(" | ", TERMS.length())));
            }
        }
        for (String term : terms) {
            due.yes("a row: " + term, term.isBlank() || rows.stream().anyMatch(term::startsWith));
        }
    }

    private static void everyTestIsTold(Due due, List<String> readme) throws Exception {
        List<String> told = new ArrayList<>();
        Matcher names = TEST_NAME.matcher(String.join("\n", readme));
        while (names.find()) {
            told.add(names.group(1));
        }
        for (String test : Project.tests()) {
            due.yes("tells of " + test, told.contains(test));
        }
        for (String test : told) {
            due.yes("there is a " + test, Project.tests().contains(test));
        }
    }

    private static void testsRunAsTold(Due due, List<String> readme) {
        due.yes("tells how the tests run", readme.contains("bash .ci/run"));
        due.yes(".ci/run can run", Files.isExecutable(Project.home().resolve(".ci/run")));
    }
}

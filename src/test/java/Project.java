import java.io.IOException;
import java.nio.charset.StandardCharsets;
import java.nio.file.Files;
import java.nio.file.Path;
import java.util.ArrayList;
import java.util.List;
import java.util.stream.Stream;

/** The files that tests read: those of this checkout, and those of ../shared beside it. */
final class Project {
    private static final Path HOME = Path.of(System.getProperty("digester.home", ".")).toAbsolutePath().normalize();

    static Path home() {
        return HOME;
    }

    static List<String> source() throws IOException {
        return lines(HOME.resolve("src/main/java/DigesterRates.java"));
    }

    static List<String> readme() throws IOException {
        return lines(HOME.resolve("README.md"));
    }

    static List<String> document() throws IOException {
        return lines(HOME.resolve("../shared/DOC.md"));
    }

    private static List<String> lines(Path file) throws IOException {
        return Files.readAllLines(file, StandardCharsets.UTF_8);
    }

    /** The names of the project's tests. */
    static List<String> tests() throws IOException {
        List<String> names = new ArrayList<>();
        try (Stream<Path> files = Files.list(HOME.resolve("src/test/java"))) {
            for (Path file : files.sorted().toList()) {
                String name = file.getFileName().toString();
                if (name.endsWith("Test.java")) {
                    names.add(name.substring(0, name.length() - ".java".length()));
                }
            }
        }
        return names;
    }

    /** What stands in all of a text's blocks of Java. */
    static List<String> javaBlocks(List<String> text) {
        List<String> found = new ArrayList<>();
        boolean inside = false;
        for (String line : text) {
            if (inside && line.equals("```")) {
                inside = false;
            } else if (inside) {
                found.add(line);
            } else {
                inside = line.equals("```java");
            }
        }
        return found;
    }

    private Project() {
    }
}

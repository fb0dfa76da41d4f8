import java.io.IOException;
import java.nio.file.Files;
import java.nio.file.Path;
import java.util.Set;
import java.util.TreeSet;
import java.util.stream.Stream;

/** The project's files; .ci/run tells where the project is. */
final class Project {
    private static final Path ROOT = Path.of(System.getProperty("afterfire.root", "."));

    private Project() {
    }

    static String text(String file) throws IOException {
        return Files.readString(ROOT.resolve(file));
    }

    /** The names of the tests of the project, without their ending. */
    static Set<String> tests() throws IOException {
        Set<String> names = new TreeSet<>();
        try (Stream<Path> files = Files.list(ROOT.resolve("src/test/java"))) {
            files.map(file -> file.getFileName().toString())
                .filter(name -> name.endsWith("Test.java"))
                .forEach(name -> names.add(name.replace(".java", "")));
        }
        return names;
    }
}

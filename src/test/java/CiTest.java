import java.io.IOException;
import java.nio.file.Files;
import java.nio.file.Path;
import java.util.List;
import java.util.stream.Stream;

/** What README.md says of .ci/run, on a small project made for it: which tests it runs, and when it fails. */
public final class CiTest {
    private static final String GOOD = "public final class ClayBoots { }";
    private static final String PASSES = "public final class %s { public static void main(String[] args) { System.out.println(\"ran %1$s\"); new ClayBoots(); Helper.help(); } }";
    private static final String SHARED = "public final class %s { public static void main(String[] args) { System.out.println(\"ran %1$s\"); new ClayBoots(); } }";
    private static final String FAILS = "public final class %s { public static void main(String[] args) { new ClayBoots(); System.exit(1); } }";
    private static final String HELPER = "final class Helper { static void help() { } }";

    private static Path room;
    private static String said = "";

    private CiTest() {
    }

    public static void main(String[] args) throws Exception {
        passes();
        Due.is("ci: a test of the project that fails", run(GOOD, List.of("OneTest"), List.of("BadTest"), List.of("Runs"), List.of()) != 0, true);
        Due.is("ci: says so of each", said.contains("FAILED: BadTest\n") && said.contains("ok: OneTest\n") && said.contains("ok: Runs\n"), true);
        Due.is("ci: a test under ../shared/tests that fails", run(GOOD, List.of("OneTest"), List.of(), List.of("Runs"), List.of("Bad")) != 0, true);
        Due.is("ci: no test under ../shared/tests", run(GOOD, List.of("OneTest"), List.of(), List.of(), List.of()) != 0, true);
        Due.is("ci: a class that is not to be compiled", run("public final class ClayBoots {", List.of("OneTest"), List.of(), List.of("Runs"), List.of()) != 0, true);
        Due.is("ci: a class without the tests' constructor", run("public final class ClayBoots { private ClayBoots() { } }", List.of("OneTest"), List.of(), List.of("Runs"), List.of()) != 0, true);
        Due.end();
    }

    private static void passes() throws Exception {
        Due.is("ci: all pass", run(GOOD, List.of("OneTest", "TwoTest"), List.of(), List.of("Runs", "More"), List.of()), 0);
        for (String name : new String[] {"OneTest", "TwoTest", "Runs", "More"}) {
            Due.is("ci: is run: " + name, said.contains("ran " + name + "\n"), true);
        }
        Due.is("ci: a helper is no test", said.contains("ok: Helper"), false);
    }

    /** The exit code for a class, tests of the project that pass and fail, and such under ../shared/tests. */
    private static int run(String source, List<String> good, List<String> bad, List<String> sharedGood, List<String> sharedBad) throws Exception {
        room = Files.createTempDirectory("ci");
        try {
            Path script = write("main/.ci/run", Files.readString(Path.of(".ci/run")));
            Due.is("ci: can be run", script.toFile().setExecutable(true), true);
            write("main/src/main/java/ClayBoots.java", source);
            write("main/src/test/java/Helper.java", HELPER);
            Files.createDirectories(room.resolve("shared/tests"));
            writeAll("main/src/test/java/", good, PASSES);
            writeAll("main/src/test/java/", bad, FAILS);
            writeAll("shared/tests/", sharedGood, SHARED);
            writeAll("shared/tests/", sharedBad, FAILS);
            // From another directory, for the script finds its own place.
            Process shell = new ProcessBuilder(script.toString()).directory(room.toFile()).redirectErrorStream(true).start();
            said = new String(shell.getInputStream().readAllBytes());
            return shell.waitFor();
        } finally {
            try (Stream<Path> all = Files.walk(room)) {
                for (Path path : all.sorted((a, b) -> b.compareTo(a)).toList()) {
                    Files.delete(path);
                }
            }
        }
    }

    private static void writeAll(String where, List<String> names, String source) throws IOException {
        for (String name : names) {
            write(where + name + ".java", String.format(source, name));
        }
    }

    private static Path write(String where, String text) throws IOException {
        Path path = room.resolve(where);
        Files.createDirectories(path.getParent());
        return Files.writeString(path, text);
    }
}

import java.io.File;
import java.io.IOException;
import java.nio.file.Files;
import java.nio.file.Path;
import java.util.ArrayList;
import java.util.List;
import java.util.Set;
import java.util.TreeSet;
import java.util.regex.Matcher;
import java.util.regex.Pattern;
import java.util.stream.Stream;
import javax.tools.ToolProvider;

/** README.md against what is: its example against the class, its words on the tests against the tests and their script. */
public final class ReadmeTest {
    private static final Pattern ANSWERED = Pattern.compile("^((?:x\\.|tell\\().*\\)); +// (-?\\d+|true|false)(?:: .*)?$");

    private ReadmeTest() {
    }

    public static void main(String[] args) throws Exception {
        String readme = Files.readString(Path.of("README.md"));
        example(readme);
        tests(readme);
        commands(readme);
        Due.end();
    }

    private static List<String> blocks(String readme, String kind) {
        List<String> blocks = new ArrayList<>();
        Matcher m = Pattern.compile("(?m)^```" + kind + "\\n(.*?)^```", Pattern.DOTALL).matcher(readme);
        while (m.find()) {
            blocks.add(m.group(1));
        }
        return blocks;
    }

    /** The blocks as one program, in which each call is held against the answer that stands behind it. */
    private static void example(String readme) throws Exception {
        StringBuilder members = new StringBuilder();
        StringBuilder body = new StringBuilder();
        int answers = 0;
        for (String block : blocks(readme, "java")) {
            if (block.startsWith("static ")) {
                members.append(block);
                continue;
            }
            for (String line : block.split("\n")) {
                Matcher m = ANSWERED.matcher(line);
                boolean answered = m.matches();
                Due.is("README: an answer stands behind " + line, answered || line.equals("ClayBoots x = new ClayBoots();"), true);
                answers += answered ? 1 : 0;
                body.append(answered ? "Due.is(\"README: " + m.group(1).replace("\"", "'") + "\", " + m.group(1) + ", " + m.group(2) + ");" : line);
                body.append('\n');
            }
        }
        Due.is("README: calls with answers", answers >= 30, true);
        Path out = Files.createTempDirectory("readme");
        try {
            Path source = out.resolve("Readme.java");
            Files.writeString(source, "public final class Readme {\n" + members + "public static void main(String[] args) {\n" + body + "Due.end();\n}\n}\n");
            runProgram(out, source);
        } finally {
            remove(out);
        }
    }

    private static void runProgram(Path out, Path source) throws Exception {
        String path = System.getProperty("java.class.path");
        int code = ToolProvider.getSystemJavaCompiler().run(null, null, null, "-cp", path, "-d", out.toString(), source.toString());
        Due.is("README: the example compiles", code, 0);
        Process java = new ProcessBuilder(Path.of(System.getProperty("java.home"), "bin", "java").toString(),
                "-cp", path + File.pathSeparator + out, "Readme").inheritIO().start();
        Due.is("README: the example's answers", java.waitFor(), 0);
    }

    private static void remove(Path directory) throws IOException {
        try (Stream<Path> all = Files.walk(directory)) {
            for (Path path : all.sorted((a, b) -> b.compareTo(a)).toList()) {
                Files.delete(path);
            }
        }
    }

    /** The table has each test of the project, and no other. */
    private static void tests(String readme) throws IOException {
        Set<String> told = new TreeSet<>();
        Matcher row = Pattern.compile("(?m)^\\| ([\\w, ]*Test) \\|").matcher(readme);
        while (row.find()) {
            told.addAll(List.of(row.group(1).split(", ")));
        }
        Set<String> found = new TreeSet<>();
        for (File file : new File("src/test/java").listFiles()) {
            if (file.getName().endsWith("Test.java")) {
                found.add(file.getName().replace(".java", ""));
            }
        }
        Due.is("README: tests in the table", told.toString(), found.toString());
        Matcher helper = Pattern.compile("`(\\w+\\.java)`|`(src/[\\w/.]+)`").matcher(readme);
        while (helper.find()) {
            Path path = helper.group(2) != null ? Path.of(helper.group(2)) : Path.of("src/test/java", helper.group(1));
            Due.is("README: there is " + path, Files.exists(path), true);
        }
    }

    /** All but .ci/run itself, which runs this test, is done as it is told there; CiTest has what .ci/run does. */
    private static void commands(String readme) throws Exception {
        List<String> blocks = blocks(readme, "sh");
        Due.is("README: blocks of commands", blocks.size(), 2);
        Due.is("README: how all tests are run", blocks.isEmpty() ? "" : blocks.get(0).trim(), ".ci/run");
        Due.is("README: .ci/run can be run", Files.isExecutable(Path.of(".ci/run")), true);
        if (blocks.size() == 2) {
            Process shell = new ProcessBuilder("sh", "-e", "-c", blocks.get(1)).redirectErrorStream(true).start();
            String said = new String(shell.getInputStream().readAllBytes());
            Due.is("README: a test by itself passes", shell.waitFor(), 0);
            Due.is("README: and says so", said.contains(" answers, 0 not as due"), true);
        }
    }
}

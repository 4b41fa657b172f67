import java.io.IOException;
import java.nio.file.Files;
import java.nio.file.Path;
import java.util.ArrayList;
import java.util.LinkedHashMap;
import java.util.List;
import java.util.Map;
import java.util.regex.Matcher;
import java.util.regex.Pattern;
import java.util.stream.Stream;

/** The remarks of the edge tests against the document: what they quote stands there, and nothing there is without a remark. */
public final class RemarksTest {
    private static final Path DOC = Path.of("../shared/DOC.md");
    private static final Path TESTS = Path.of("src/test/java");

    private RemarksTest() {
    }

    public static void main(String[] args) throws IOException {
        Map<String, String> parts = partsOfTheDocument();
        Due.is("remarks: 44 promises and 5 parts of the terms", parts.size(), 44 + 5);
        Map<String, boolean[]> quoted = new LinkedHashMap<>();
        parts.forEach((name, text) -> quoted.put(name, new boolean[text.length()]));
        for (String[] quote : quotes()) {
            String text = parts.getOrDefault(quote[0], "");
            int at = text.indexOf(quote[1]);
            Due.is("remarks: stands in " + quote[0] + ": " + quote[1], at >= 0 && !quote[1].isEmpty(), true);
            for (; at >= 0 && !quote[1].isEmpty(); at = text.indexOf(quote[1], at + 1)) {
                java.util.Arrays.fill(quoted.get(quote[0]), at, at + quote[1].length(), true);
            }
        }
        parts.forEach((name, text) -> Due.is("remarks: of " + name + " there is no remark for", missing(text, quoted.get(name)), ""));
        Due.end();
    }

    private static String plain(String text) {
        return text.replaceAll("```\\w*", " ").replaceAll("\\s+", " ").trim();
    }

    private static Map<String, String> partsOfTheDocument() throws IOException {
        Map<String, String> parts = new LinkedHashMap<>();
        for (String section : Files.readString(DOC).split("(?m)^## ")) {
            int end = Math.max(0, section.indexOf('\n'));
            String body = section.substring(end);
            if (section.startsWith("Terms")) {
                String[] terms = body.split("====");
                for (int i = 0; i < terms.length; i++) {
                    parts.put("Terms " + i, plain(terms[i]));
                }
            } else if (section.startsWith("Promise ")) {
                String name = section.substring(0, section.indexOf(':'));
                parts.put(name, plain(body).replaceFirst("^`[^`]*`: ", ""));
            }
        }
        return parts;
    }

    /** Each quote of a remark with the part of the document that the remark names ahead of it. */
    private static List<String[]> quotes() throws IOException {
        List<String[]> quotes = new ArrayList<>();
        List<Path> files;
        try (Stream<Path> all = Files.list(TESTS)) {
            files = all.filter(f -> f.getFileName().toString().endsWith("EdgesTest.java")).sorted().toList();
        }
        for (Path file : files) {
            Matcher remark = Pattern.compile("/\\*\\* ((?:Promise|Terms) \\d+: .*?)\\*/\\s+private static void (\\w+)\\(", Pattern.DOTALL)
                    .matcher(Files.readString(file));
            int tests = 0;
            while (remark.find()) {
                tests++;
                Matcher m = Pattern.compile("((?:Promise|Terms) \\d+): |\"([^\"]*)\"").matcher(remark.group(1));
                String part = "";
                while (m.find()) {
                    if (m.group(1) != null) {
                        part = m.group(1);
                    } else {
                        quotes.add(new String[] {part, plain(m.group(2))});
                    }
                }
            }
            Due.is("remarks: each test of " + file.getFileName() + " has one", tests, testsCalledIn(Files.readString(file)));
        }
        return quotes;
    }

    private static int testsCalledIn(String source) {
        Matcher main = Pattern.compile("void main\\(String\\[\\] args\\) \\{(.*?)Due\\.end\\(\\)", Pattern.DOTALL).matcher(source);
        return main.find() ? (int) Pattern.compile("\\(\\);").matcher(main.group(1)).results().count() : -1;
    }

    /** The first words that no remark quotes. */
    private static String missing(String text, boolean[] quoted) {
        for (int i = 0; i < text.length(); i++) {
            if (!quoted[i] && Character.isLetterOrDigit(text.charAt(i))) {
                return text.substring(i, Math.min(text.length(), i + 80));
            }
        }
        return "";
    }
}

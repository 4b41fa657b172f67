import java.io.IOException;
import java.lang.reflect.Member;
import java.lang.reflect.Method;
import java.lang.reflect.Modifier;
import java.nio.file.Files;
import java.nio.file.Path;
import java.util.ArrayList;
import java.util.HashSet;
import java.util.List;
import java.util.Set;
import java.util.regex.Matcher;
import java.util.regex.Pattern;

/** What of LANGUAGE.md can be seen in the source and in the compiled class. */
public final class LanguageTest {
    private static final String[] RULED_OUT = {"throw", "throws", "try", "catch", "synchronized", "assert", "import",
        "package", "protected", "native", "volatile", "hashCode", "toString", "equals", "Exact", "->", "::", "Object",
        "Random", "System.out", "System.nanoTime", "System.currentTimeMillis", "Thread", "Exception", "double", "float"};

    private LanguageTest() {
    }

    public static void main(String[] args) throws IOException {
        String source = Files.readString(Path.of("src/main/java/ClayBoots.java"));
        ruledOut(source);
        methods(source);
        face();
        classes();
        Due.end();
    }

    private static void ruledOut(String source) {
        String code = source.replaceAll("(?s)/\\*.*?\\*/", "").replaceAll("//[^\\n]*", "").replaceAll("\"[^\"\\n]*\"", "\"\"");
        for (String word : RULED_OUT) {
            boolean stands = Character.isLetter(word.charAt(0))
                    ? Pattern.compile("\\b" + word.replace(".", "\\.") + "\\b").matcher(code).find() || word.equals("Exact") && code.contains("Exact(")
                    : code.contains(word);
            Due.is("language: " + word, stands, false);
        }
        for (int i = 0; i < source.length(); i++) {
            if (source.charAt(i) > 127) {
                Due.is("language: a sign beyond 127 at " + i, true, false);
            }
        }
    }

    private static void methods(String source) {
        String[] lines = source.split("\n");
        Pattern head = Pattern.compile("^( +)(?:public |private |static |final )*[\\w\\[\\]]+ ?\\w*\\(.*\\{$");
        int found = 0;
        for (int i = 0; i < lines.length; i++) {
            Matcher m = head.matcher(lines[i]);
            if (m.matches() && (m.group(1).length() == 4 || m.group(1).length() == 8) && !lines[i].trim().startsWith("for")
                    && !lines[i].trim().startsWith("if") && !lines[i].trim().startsWith("switch")) {
                int end = i;
                while (end < lines.length && !lines[end].equals(m.group(1) + "}")) {
                    end++;
                }
                found++;
                Due.is("language: a method is short, line " + (i + 1), end - i < 60, true);
            }
        }
        Due.is("language: methods are found", found > 100, true);
    }

    private static void face() {
        Set<String> open = new HashSet<>();
        List<Member> members = new ArrayList<>(List.of(ClayBoots.class.getDeclaredMethods()));
        members.addAll(List.of(ClayBoots.class.getDeclaredFields()));
        members.addAll(List.of(ClayBoots.class.getDeclaredConstructors()));
        int count = 0;
        for (Member m : members) {
            if (!m.isSynthetic()) {
                boolean isOpen = Modifier.isPublic(m.getModifiers());
                Due.is("language: " + m.getName() + " is public or private", isOpen || Modifier.isPrivate(m.getModifiers()), true);
                count += isOpen ? 1 : 0;
                if (isOpen && m instanceof Method) {
                    open.add(m.getName());
                }
            }
        }
        Due.is("language: public members", count, 43 + 1 + 1);
        List<Class<?>> all = new ArrayList<>(List.of(ClayBoots.class.getDeclaredClasses()));
        all.add(ClayBoots.class);
        for (Class<?> c : all) {
            for (Method m : c.getDeclaredMethods()) {
                boolean shadow = open.contains(m.getName()) && !Modifier.isPublic(m.getModifiers());
                Due.is("language: " + m.getName() + " bears the name of a public one", shadow, false);
                Due.is("language: parameters of " + m.getName(), m.getParameterCount() <= 7, true);
            }
        }
    }

    private static void classes() {
        Class<?>[] inner = ClayBoots.class.getDeclaredClasses();
        Due.is("language: classes", inner.length + 1 <= 12, true);
        for (Class<?> c : inner) {
            Due.is("language: " + c.getName() + " is static", Modifier.isStatic(c.getModifiers()), true);
            int fields = 0;
            for (java.lang.reflect.Field f : c.getDeclaredFields()) {
                fields += Modifier.isStatic(f.getModifiers()) ? 0 : 1;
            }
            Due.is("language: fields of " + c.getName(), fields <= 20, true);
        }
    }
}

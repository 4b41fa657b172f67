import java.io.IOException;
import java.lang.reflect.Constructor;
import java.lang.reflect.Field;
import java.lang.reflect.Method;
import java.lang.reflect.Modifier;
import java.nio.file.Files;
import java.nio.file.Path;
import java.util.Set;
import java.util.TreeSet;
import java.util.regex.Matcher;
import java.util.regex.Pattern;

/** "The public face" of the document against the compiled class: the same members, and no other. */
public final class FaceTest {
    private static final Path DOC = Path.of("../shared/DOC.md");

    private FaceTest() {
    }

    public static void main(String[] args) throws IOException, IllegalAccessException {
        String doc = Files.readString(DOC);
        Set<String> told = toldFace(doc);
        Set<String> found = foundFace();
        Due.is("face: told members are found in the document", told.size(), 1 + 1 + 43);
        for (String member : told) {
            Due.is("face: there is " + member, found.contains(member), true);
        }
        for (String member : found) {
            Due.is("face: told is " + member, told.contains(member), true);
        }
        int ofClass = ClayBoots.class.getModifiers();
        Due.is("face: public and final", Modifier.isPublic(ofClass) && Modifier.isFinal(ofClass), true);
        Due.is("face: without a package", ClayBoots.class.getPackageName(), "");
        Due.is("face: above it only what is above all", ClayBoots.class.getSuperclass() == Object.class, true);
        Due.is("face: of no interface", ClayBoots.class.getInterfaces().length, 0);
        promisesHaveTheirFace(doc, told);
        Due.end();
    }

    /** The block below "The public face", a member a line, without the names of what is handed over. */
    private static Set<String> toldFace(String doc) {
        Set<String> told = new TreeSet<>();
        Matcher block = Pattern.compile("## The public face\\s+```java\\n(.*?)```", Pattern.DOTALL).matcher(doc);
        if (block.find()) {
            for (String line : block.group(1).split("\n")) {
                if (line.startsWith("    ")) {
                    told.add(plain(line.trim().replaceFirst(";$", "")));
                }
            }
        }
        return told;
    }

    private static String plain(String member) {
        return member.replaceAll("(int|boolean) \\w+(?=[,)])", "$1").replaceAll("\\s+", " ");
    }

    private static Set<String> foundFace() throws IllegalAccessException {
        Set<String> found = new TreeSet<>();
        for (Method m : ClayBoots.class.getDeclaredMethods()) {
            if (!Modifier.isPrivate(m.getModifiers()) && !m.isSynthetic()) {
                found.add(Modifier.toString(m.getModifiers()) + " " + m.getReturnType() + " " + m.getName() + handed(m.getParameterTypes()));
            }
        }
        for (Constructor<?> c : ClayBoots.class.getDeclaredConstructors()) {
            if (!Modifier.isPrivate(c.getModifiers())) {
                found.add(Modifier.toString(c.getModifiers()) + " " + c.getName() + handed(c.getParameterTypes()));
            }
        }
        for (Field f : ClayBoots.class.getDeclaredFields()) {
            if (!Modifier.isPrivate(f.getModifiers())) {
                found.add(Modifier.toString(f.getModifiers()) + " " + f.getType() + " " + f.getName() + " = " + f.get(null));
            }
        }
        return found;
    }

    private static String handed(Class<?>[] types) {
        StringBuilder all = new StringBuilder("(");
        for (int i = 0; i < types.length; i++) {
            all.append(i == 0 ? "" : ", ").append(types[i]);
        }
        return all.append(")").toString();
    }

    /** A promise's own line says the same as the face, so that neither is read without the other. */
    private static void promisesHaveTheirFace(String doc, Set<String> told) {
        Matcher m = Pattern.compile("## Promise (\\d+): [^\\n]*\\s+`([^`]*)`:").matcher(doc);
        int count = 0;
        while (m.find()) {
            count++;
            Due.is("face: promise " + m.group(1) + " is told there", told.contains("public " + plain(m.group(2))), true);
        }
        Due.is("face: promises", count, 44);
    }
}

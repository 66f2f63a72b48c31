import java.lang.reflect.Constructor;
import java.lang.reflect.Field;
import java.lang.reflect.Method;
import java.lang.reflect.Modifier;
import java.nio.file.Files;
import java.nio.file.Path;
import java.util.ArrayList;
import java.util.Arrays;
import java.util.List;
import java.util.TreeSet;

/** The public face is that of the document, and nothing else of the class is seen from outside. */
public final class FaceTest {
    public static void main(String[] args) throws Exception {
        Check.due("modifiers of the class", Modifier.toString(PupilPairs.class.getModifiers()), "public final");
        TreeSet<String> due = new TreeSet<>(documentFace());
        Check.due("lines of the document's face", due.size(), 66);
        Check.due("the face", String.join("\n", programFace()), String.join("\n", due));
        Check.due("NONE", PupilPairs.NONE, -1);
        noOtherMember();
        Check.finish();
    }

    private static List<String> documentFace() throws Exception {
        List<String> face = new ArrayList<>();
        boolean inside = false;
        for (String line : Files.readAllLines(Path.of("../shared/DOC.md"))) {
            if (line.startsWith("public final class PupilPairs {")) {
                inside = true;
            } else if (line.equals("}")) {
                inside = false;
            } else if (inside) {
                face.add(line.trim());
            }
        }
        return face;
    }

    private static TreeSet<String> programFace() throws Exception {
        TreeSet<String> face = new TreeSet<>();
        face.add("public static final int NONE = " + PupilPairs.NONE + ";");
        List<String> source = Files.readAllLines(Path.of("src/main/java/PupilPairs.java"));
        String all = String.join("\n", source).replaceAll("\\)\\s+throws", ") throws");
        for (String line : all.split("\n")) {
            if (line.startsWith("    public ") && line.endsWith("{")) {
                face.add(line.trim().replaceAll(" \\{$", ";"));
            }
        }
        return face;
    }

    private static void noOtherMember() {
        int mask = Modifier.PRIVATE;
        TreeSet<String> publicMethods = new TreeSet<>();
        TreeSet<String> privateMethods = new TreeSet<>();
        for (Method m : PupilPairs.class.getDeclaredMethods()) {
            if (Modifier.isPublic(m.getModifiers())) {
                publicMethods.add(m.getName());
            } else if (!m.isSynthetic()) {
                privateMethods.add(m.getName());
                Check.due(m.getName() + " is private", (m.getModifiers() & mask) != 0, true);
            }
        }
        Check.due("public methods", publicMethods.size(), 64);
        privateMethods.retainAll(publicMethods);
        Check.due("private methods with public names", privateMethods, "[]");
        for (Field f : PupilPairs.class.getDeclaredFields()) {
            boolean isNone = f.getName().equals("NONE");
            Check.due(f.getName() + " is private", (f.getModifiers() & mask) != 0, !isNone);
            boolean isStatic = Modifier.isStatic(f.getModifiers());
            Check.due(f.getName() + " static and not final", isStatic && !Modifier.isFinal(f.getModifiers()), false);
        }
        for (Constructor<?> c : PupilPairs.class.getDeclaredConstructors()) {
            Check.due("constructor", c, "public PupilPairs()");
        }
        for (Class<?> inside : PupilPairs.class.getDeclaredClasses()) {
            Check.due(inside.getName(), Modifier.toString(inside.getModifiers()), "private static final");
        }
        Check.due("classes inside", Arrays.asList(PupilPairs.class.getDeclaredClasses()).size() <= 11, true);
    }
}

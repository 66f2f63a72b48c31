import java.lang.reflect.Constructor;
import java.lang.reflect.Field;
import java.lang.reflect.Method;
import java.lang.reflect.Modifier;
import java.util.Arrays;
import java.util.List;
import java.util.TreeSet;

/** The public face is that of the document, and nothing else of the class is seen from outside. */
public final class FaceTest {
    private static final List<String> DUE = List.of(
        "int append(int, int, int, int, int)",
        "int load(int) throws IndexOutOfBoundsException, IllegalArgumentException",
        "int parseError()",
        "int errorPosition()",
        "int buffered()",
        "int count(int) throws IllegalStateException, IllegalArgumentException",
        "int pupil(int, int) throws IllegalStateException, IndexOutOfBoundsException, IllegalArgumentException",
        "boolean friends(int, int) throws IllegalStateException, IndexOutOfBoundsException",
        "int friendAt(int, int) throws IllegalStateException, IndexOutOfBoundsException",
        "int whyNot(int, int) throws IllegalStateException, IndexOutOfBoundsException",
        "int search(int) throws IllegalStateException, IllegalArgumentException",
        "int label(int) throws IllegalStateException, IndexOutOfBoundsException",
        "int group(int) throws IllegalStateException, IndexOutOfBoundsException",
        "int base(int) throws IllegalStateException, IndexOutOfBoundsException",
        "int link(int) throws IllegalStateException, IndexOutOfBoundsException",
        "int bridge(int, boolean) throws IllegalStateException, IndexOutOfBoundsException",
        "int queueAt(int) throws IllegalStateException",
        "int next() throws IllegalStateException",
        "int wayLength(int) throws IllegalStateException, IndexOutOfBoundsException",
        "int wayAt(int, int) throws IllegalStateException, IndexOutOfBoundsException",
        "int blossoms() throws IllegalStateException",
        "int most() throws IllegalStateException",
        "boolean isMost() throws IllegalStateException",
        "int deficit() throws IllegalStateException",
        "int loose() throws IllegalStateException",
        "int barrier() throws IllegalStateException",
        "int rest() throws IllegalStateException",
        "int oddSets() throws IllegalStateException",
        "int oddSet(int) throws IllegalStateException",
        "int proof() throws IllegalStateException",
        "int odds(int) throws IllegalStateException, IllegalArgumentException",
        "boolean isProof(int) throws IllegalStateException, IllegalArgumentException",
        "int smallestProof() throws IllegalStateException",
        "boolean inSome(int, int) throws IllegalStateException, IndexOutOfBoundsException",
        "boolean inAll(int, int) throws IllegalStateException, IndexOutOfBoundsException",
        "long pairings() throws IllegalStateException",
        "int firstMate(int) throws IllegalStateException, IndexOutOfBoundsException",
        "int mostWithout(int) throws IllegalStateException, IndexOutOfBoundsException",
        "int mostIf(int, int) throws IllegalStateException, IndexOutOfBoundsException",
        "int mostBy(int) throws IllegalStateException, IllegalArgumentException",
        "int bestRule() throws IllegalStateException",
        "int helps() throws IllegalStateException",
        "int wouldEnd(int) throws IllegalStateException, IndexOutOfBoundsException",
        "int stepsTo(int) throws IllegalStateException, IndexOutOfBoundsException",
        "double meanFriends() throws IllegalStateException",
        "float pairedShare() throws IllegalStateException",
        "int writePairs() throws IllegalStateException",
        "int writeGroups() throws IllegalStateException",
        "int writeWay(int) throws IllegalStateException, IndexOutOfBoundsException",
        "int textByte(int) throws IndexOutOfBoundsException",
        "int seek(int) throws IllegalStateException, IndexOutOfBoundsException, IllegalArgumentException",
        "int step() throws IllegalStateException, IllegalArgumentException",
        "int run() throws IllegalStateException, IllegalArgumentException",
        "int fill() throws IllegalStateException",
        "int pair(int, int) throws IllegalStateException, IndexOutOfBoundsException, IllegalArgumentException",
        "int part(int) throws IllegalStateException, IndexOutOfBoundsException, IllegalArgumentException",
        "int flip(int) throws IllegalStateException, IndexOutOfBoundsException, IllegalArgumentException",
        "int befriend(int, int, boolean) throws IllegalStateException, IndexOutOfBoundsException, IllegalArgumentException",
        "int setKind(int, int) throws IllegalStateException, IndexOutOfBoundsException, IllegalArgumentException",
        "int setRule(int) throws IllegalStateException, IllegalArgumentException",
        "int undo() throws IllegalStateException",
        "int undoable()",
        "int save(int) throws IllegalStateException, IndexOutOfBoundsException",
        "int restore(int) throws IndexOutOfBoundsException, IllegalStateException");

    public static void main(String[] args) {
        Check.due("modifiers of the class", Modifier.toString(PupilPairs.class.getModifiers()), "public final");
        Check.due("NONE", PupilPairs.NONE, -1);
        methods();
        fields();
        for (Constructor<?> c : PupilPairs.class.getDeclaredConstructors()) {
            Check.due("constructor", c, "public PupilPairs()");
        }
        for (Class<?> inside : PupilPairs.class.getDeclaredClasses()) {
            Check.due(inside.getName(), Modifier.toString(inside.getModifiers()), "private static final");
        }
        Check.finish();
    }

    private static void methods() {
        TreeSet<String> face = new TreeSet<>();
        TreeSet<String> publicNames = new TreeSet<>();
        TreeSet<String> privateNames = new TreeSet<>();
        for (Method m : PupilPairs.class.getDeclaredMethods()) {
            if (Modifier.isPublic(m.getModifiers())) {
                Check.due("modifiers of " + m.getName(), Modifier.toString(m.getModifiers()), "public");
                face.add(told(m));
                publicNames.add(m.getName());
            } else {
                Check.due(m.getName() + " is private", Modifier.isPrivate(m.getModifiers()), true);
                privateNames.add(m.getName());
            }
        }
        Check.due("the face", String.join("\n", face), String.join("\n", new TreeSet<>(DUE)));
        privateNames.retainAll(publicNames);
        Check.due("private methods with public names", privateNames, "[]");
    }

    private static String told(Method m) {
        String text = m.getReturnType().getName() + " " + m.getName() + "(" + names(m.getParameterTypes()) + ")";
        return m.getExceptionTypes().length == 0 ? text : text + " throws " + names(m.getExceptionTypes());
    }

    private static String names(Class<?>[] types) {
        return String.join(", ", Arrays.stream(types).map(Class::getSimpleName).toList());
    }

    private static void fields() {
        for (Field f : PupilPairs.class.getDeclaredFields()) {
            boolean isNone = f.getName().equals("NONE");
            Check.due(f.getName() + " is private", Modifier.isPrivate(f.getModifiers()), !isNone);
            boolean isStatic = Modifier.isStatic(f.getModifiers());
            Check.due(f.getName() + " static and not final", isStatic && !Modifier.isFinal(f.getModifiers()), false);
        }
    }
}

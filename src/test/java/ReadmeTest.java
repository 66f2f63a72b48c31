import java.io.IOException;
import java.lang.reflect.InvocationTargetException;
import java.lang.reflect.Method;
import java.nio.file.Files;
import java.nio.file.Path;
import java.util.ArrayList;
import java.util.List;
import java.util.TreeSet;
import java.util.regex.Matcher;
import java.util.regex.Pattern;

/** The calls that README.md shows are made as they stand there, and answer as it says. */
public final class ReadmeTest {
    private static final String MAKE = "PupilPairs x = new PupilPairs();";
    private static final String THROWS = "throws ";
    /** A call, its arguments, and what it answers, up to what is said of it. */
    private static final Pattern CALL =
        Pattern.compile("x\\.(\\w+)\\(([^)]*)\\); +// (throws \\w+|true|false|-?[0-9]+(?:\\.[0-9]+)?)([ ,:;].*)?");
    private static final Pattern QUOTED = Pattern.compile(".*\"(.*)\"");

    private final TreeSet<String> asked = new TreeSet<>();
    private PupilPairs x;

    public static void main(String[] args) throws Exception {
        ReadmeTest test = new ReadmeTest();
        for (String line : linesOfCode(Path.of("README.md"))) {
            test.make(line);
        }
        for (String group : new String[] {"append load", "count friends", "seek step run wayLength", "most proof",
            "mostIf", "writePairs writeGroups writeWay textByte", "undo save restore", "parseError errorPosition"}) {
            test.dueAsked(group);
        }
        Check.finish();
    }

    private static List<String> linesOfCode(Path page) throws IOException {
        List<String> code = new ArrayList<>();
        boolean isCode = false;
        for (String line : Files.readAllLines(page)) {
            if (line.startsWith("```")) {
                isCode = line.equals("```java");
            } else if (isCode && !line.isBlank()) {
                code.add(line);
            }
        }
        return code;
    }

    private void dueAsked(String names) {
        for (String name : names.split(" ")) {
            Check.due("README shows " + name, asked.contains(name), true);
        }
    }

    private void make(String line) throws IllegalAccessException {
        if (line.equals(MAKE)) {
            x = new PupilPairs();
            return;
        }
        Matcher call = CALL.matcher(line);
        Check.due("'" + line + "' is a call with an answer", call.matches(), true);
        if (call.matches()) {
            asked.add(call.group(1));
            Check.due(line, answer(method(call.group(1)), call.group(2)), call.group(3));
            dueText(line, call.group(1), call.group(3));
        }
    }

    /** Behind a call that writes a text, README quotes the text. */
    private void dueText(String line, String name, String length) {
        if (name.startsWith("write")) {
            Matcher quoted = QUOTED.matcher(line);
            Check.due(line, Check.written(x, Integer.parseInt(length)), quoted.matches() ? quoted.group(1) : "quoted");
        }
    }

    private Object answer(Method method, String given) throws IllegalAccessException {
        Class<?>[] types = method.getParameterTypes();
        String[] words = given.isEmpty() ? new String[0] : given.split(", ");
        Object[] values = new Object[words.length];
        for (int i = 0; i < words.length && i < types.length; i++) {
            values[i] = types[i] == boolean.class ? (Object) Boolean.valueOf(words[i]) : Integer.decode(words[i]);
        }
        try {
            return method.invoke(x, values);
        } catch (InvocationTargetException thrown) {
            return THROWS + thrown.getCause().getClass().getSimpleName();
        }
    }

    private static Method method(String name) {
        for (Method m : PupilPairs.class.getMethods()) {
            if (m.getName().equals(name)) {
                return m;
            }
        }
        throw new AssertionError("no method " + name);
    }
}

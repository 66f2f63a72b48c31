import java.nio.charset.StandardCharsets;
import java.util.Arrays;

/** What the tests share: they tell each wrong answer, and end with exit code 1 if there was one. */
final class Check {
    interface Call {
        Object answer();
    }

    static final Class<? extends RuntimeException> STATE = IllegalStateException.class;
    static final Class<? extends RuntimeException> ARGUMENT = IllegalArgumentException.class;
    static final Class<? extends RuntimeException> INDEX = IndexOutOfBoundsException.class;

    private static int wrong;

    private Check() {
    }

    static void due(String what, Object got, Object due) {
        if (!String.valueOf(got).equals(String.valueOf(due))) {
            wrong++;
            System.out.println(what + " answered " + got + ", due is " + due);
        }
    }

    /** The exception of just this class is due. */
    static void dueThrows(String what, Class<? extends RuntimeException> due, Call call) {
        try {
            due(what, call.answer(), "throws " + due.getName());
        } catch (RuntimeException thrown) {
            due(what, thrown.getClass().getName(), due.getName());
        }
    }

    static void finish() {
        System.out.println(wrong == 0 ? "all answers are as due" : wrong + " answers are not as due");
        if (wrong != 0) {
            System.exit(1);
        }
    }

    /** Appends a text, with blanks up to twenty bytes, and tells the number of bytes in the buffer. */
    static int append(PupilPairs x, String text) {
        int length = x.buffered();
        int[] words = words(text);
        for (int i = 0; i < words.length; i += 5) {
            length = x.append(words[i], words[i + 1], words[i + 2], words[i + 3], words[i + 4]);
        }
        return length;
    }

    /** A text as append takes it: four bytes in each int, five of them a call, with blanks at the end. */
    static int[] words(String text) {
        byte[] bytes = text.getBytes(StandardCharsets.ISO_8859_1);
        byte[] padded = Arrays.copyOf(bytes, (bytes.length + 19) / 20 * 20);
        Arrays.fill(padded, bytes.length, padded.length, (byte) ' ');
        int[] words = new int[padded.length / 4];
        for (int i = 0; i < padded.length; i++) {
            words[i / 4] = words[i / 4] << 8 | padded[i] & 255;
        }
        return words;
    }

    static PupilPairs loaded(String text) {
        PupilPairs x = new PupilPairs();
        load(x, text);
        return x;
    }

    static int load(PupilPairs x, String text) {
        append(x, text);
        return x.load(text.length());
    }

    /** The text has this error at this place, and none if the code is 0. */
    static void dueError(String text, int code, int at) {
        PupilPairs x = new PupilPairs();
        append(x, text);
        try {
            x.load(text.length());
            due("'" + text + "'", "loaded", code == 0 ? "loaded" : "error " + code);
        } catch (IllegalArgumentException thrown) {
            due("'" + text + "' has an error", code != 0, true);
        }
        due("parseError of '" + text + "'", x.parseError(), code);
        due("errorPosition of '" + text + "'", x.errorPosition(), at);
    }

    /** The text that was written last. */
    static String written(PupilPairs x, int length) {
        StringBuilder text = new StringBuilder();
        for (int i = 0; i < length; i++) {
            text.append((char) x.textByte(i));
        }
        dueThrows("textByte behind the text", INDEX, () -> x.textByte(length));
        return text.toString();
    }

    static String pairs(PupilPairs x) {
        return written(x, x.writePairs());
    }

    static String groups(PupilPairs x) {
        return written(x, x.writeGroups());
    }

    static String way(PupilPairs x, int p) {
        return written(x, x.writeWay(p));
    }

    static String queue(PupilPairs x) {
        StringBuilder row = new StringBuilder();
        for (int i = 0; x.queueAt(i) != PupilPairs.NONE; i++) {
            row.append(i == 0 ? "" : " ").append(x.queueAt(i));
        }
        return row.toString();
    }
}

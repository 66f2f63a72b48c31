import java.nio.charset.StandardCharsets;
import java.util.Arrays;

/** What the tests share: they tell each wrong answer, and end with exit code 1 if there was one. */
final class Check {
    interface Call {
        Object answer();
    }

    static final Class<? extends RuntimeException> STATE = IllegalStateException.class;
    static final Class<? extends RuntimeException> ARGUMENT = IllegalArgumentException.class;
    static final Class<? extends RuntimeException> INDEX = IndexOutOfBoundsException.class;

    private static int wrong;

    private Check() {
    }

    static void due(String what, Object got, Object due) {
        if (!String.valueOf(got).equals(String.valueOf(due))) {
            wrong++;
            System.out.println(what + " answered " + got + ", due is " + due);
        }
    }

    /** The exception of just this class is due. */
    static void dueThrows(String what, Class<? extends RuntimeException> due, Call call) {
        try {
            due(what, call.answer(), "throws " + due.getName());
        } catch (RuntimeException thrown) {
            due(what, thrown.getClass().getName(), due.getName());
        }
    }

    static void finish() {
        System.out.println(wrong == 0 ? "all answers are as due" : wrong + " answers are not as due");
        if (wrong != 0) {
            System.exit(1);
        }
    }

    /** Appends a text, with blanks up to twenty bytes, and tells the number of bytes in the buffer. */
    static int append(PupilPairs x, String text) {
        byte[] bytes = text.getBytes(StandardCharsets.ISO_8859_1);
        byte[] padded = Arrays.copyOf(bytes, (bytes.length + 19) / 20 * 20);
        Arrays.fill(padded, bytes.length, padded.length, (byte) ' ');
        int length = x.buffered();
        for (int i = 0; i < padded.length; i += 20) {
            length = x.append(word(padded, i), word(padded, i + 4), word(padded, i + 8), word(padded, i + 12),
                word(padded, i + 16));
        }
        return length;
    }

    private static int word(byte[] bytes, int i) {
        return (bytes[i] & 255) << 24 | (bytes[i + 1] & 255) << 16 | (bytes[i + 2] & 255) << 8 | bytes[i + 3] & 255;
    }

    static PupilPairs loaded(String text) {
        PupilPairs x = new PupilPairs();
        load(x, text);
        return x;
    }

    static int load(PupilPairs x, String text) {
        append(x, text);
        return x.load(text.length());
    }

    /** The text that was written last. */
    static String written(PupilPairs x, int length) {
        StringBuilder text = new StringBuilder();
        for (int i = 0; i < length; i++) {
            text.append((char) x.textByte(i));
        }
        dueThrows("textByte behind the text", INDEX, () -> x.textByte(length));
        return text.toString();
    }

    static String pairs(PupilPairs x) {
        return written(x, x.writePairs());
    }

    static String groups(PupilPairs x) {
        return written(x, x.writeGroups());
    }

    static String way(PupilPairs x, int p) {
        return written(x, x.writeWay(p));
    }

    static String queue(PupilPairs x) {
        StringBuilder row = new StringBuilder();
        for (int i = 0; x.queueAt(i) != PupilPairs.NONE; i++) {
            row.append(i == 0 ? "" : " ").append(x.queueAt(i));
        }
        return row.toString();
    }
}

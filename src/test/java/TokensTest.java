import java.nio.charset.StandardCharsets;
import java.util.Arrays;

/** Section 6 at its bounds: tokens, the first error of a text, and the smallest code of a token. */
public final class TokensTest {
    private static final String LETTERS = "abcdefghijklmnopqrstuvwxyz";
    private static final String LONG_TEXT = "class 12 01;kind 10 2 3;friend 10 2 11;ring 0 01 2 11;pair 11 2;pair 1 2;";

    public static void main(String[] args) {
        eachByteAlone();
        eachByteBehindText();
        eachByteBehindNumber();
        words();
        numbers();
        blanksAndEnds();
        firstErrorOfText();
        smallestCodeOfToken();
        linesAtTheirBounds();
        toldAlready();
        kindBehindPair();
        fullBuffer();
        asModelReads();
        Check.finish();
    }

    private static String sign(int b) {
        return new String(new byte[] {(byte) b}, StandardCharsets.ISO_8859_1);
    }

    /** No byte alone is a text: blanks end behind it, any other one is a token that is not allowed. */
    private static void eachByteAlone() {
        for (int b = 0; b < 256; b++) {
            Check.dueError(sign(b), 1, b == 32 ? 1 : 0);
            Check.dueError("  " + sign(b), 1, b == 32 ? 3 : 2);
        }
    }

    private static void eachByteBehindText() {
        for (int b = 0; b < 256; b++) {
            if (b == 32) {
                Check.dueError("class 1 0 " + sign(b), 0, -1);
            } else {
                Check.dueError("class 1 0 " + sign(b), 1, b == ';' ? 11 : 10);
            }
        }
    }

    private static void eachByteBehindNumber() {
        for (int b = 0; b < 256; b++) {
            String text = "class 2 0;kind 1" + sign(b);
            if (b == 32) {
                Check.dueError(text, 0, -1);
            } else if (b >= '0' && b <= '9') {
                Check.dueError(text, 2, 15);
            } else {
                Check.dueError(text, 1, b == ';' ? 17 : 16);
            }
        }
    }

    private static void words() {
        Check.dueError("class 3 0;friend 0 1", 0, -1);
        for (int letters = 1; letters <= 26; letters++) {
            String word = LETTERS.substring(0, letters);
            Check.dueError(word, 1, 0);
            Check.dueError("class 3 0;" + word + " 0 1", 1, 10);
            Check.dueError("class 3 0;kind 0 " + word, 1, 17);
            Check.dueError("class 3 0 " + word, 1, 10);
        }
        for (String word : new String[] {"class", "kind", "friend", "ring", "pair"}) {
            Check.dueError("class 3 0;" + word + "s 0 1 2", 1, 10);
            Check.dueError("class 3 0;s" + word + " 0 1 2", 1, 10);
            Check.dueError("class 3 0;" + word.substring(1) + " 0 1 2", 1, 10);
            Check.dueError("class 3 0;" + word.substring(0, word.length() - 1) + " 0 1 2", 1, 10);
            Check.dueError("class 3 0;kind 1 " + word + " 0 1 2", 1, 17);
        }
        Check.dueError("class 3 0;friendfriend 0 1", 1, 10);
        Check.dueError("class 3 0;friend friend 0 1", 1, 17);
    }

    private static void numbers() {
        Check.dueError("class 14 02", 0, -1);
        Check.dueError("class 014 02", 1, 6);
        Check.dueError("class 001 0", 1, 6);
        Check.dueError("class 100 0", 1, 6);
        Check.dueError("class 14 002", 1, 9);
        Check.dueError("class 14 000", 1, 9);
        Check.dueError("class 14 03", 2, 9);
        Check.dueError("class 14 99", 2, 9);
        Check.dueError("class 14 0;kind 13", 0, -1);
        Check.dueError("class 14 0;kind 14", 2, 16);
        Check.dueError("class 14 0;kind 013", 1, 16);
        Check.dueError("class 14 0;kind 99", 2, 16);
        Check.dueError("class 14 0;kind 4294967296", 1, 16);
        Check.dueError("class 14 0;friend 13 12", 0, -1);
        Check.dueError("class 14 0;friend 13 14", 2, 21);
        Check.dueError("class 14 0;ring 13 12 11", 0, -1);
        Check.dueError("class 14 0;ring 13 12 14", 2, 22);
        Check.dueError("class 1 0;kind 0 00", 0, -1);
        Check.dueError("class 1 0;kind 1", 2, 15);
        Check.dueError("class 1 0;friend 0 1", 2, 19);
        Check.dueError("class 1 0;friend 0 0", 3, 19);
    }

    private static void blanksAndEnds() {
        Check.dueError("class2 1;kind0 1;friend0 1;pair1 0", 5, 33);
        Check.dueError("class2 2;kind0 1;friend0 1;pair1 0", 0, -1);
        Check.dueError("   class   2   2   ;   kind   0   1   ;   friend   0   1   ", 0, -1);
        Check.dueError("class 2 2; kind ;", 1, 16);
        Check.dueError("class 2 2;kind ", 1, 15);
        Check.dueError("class 2 2;kind   ", 1, 17);
        Check.dueError("class 2 2;   ", 1, 13);
        Check.dueError("class 2 ", 1, 8);
        Check.dueError("class ", 1, 6);
        Check.dueError("class12", 1, 7);
        Check.dueError("class 2 2 ;kind 0;", 1, 18);
    }

    private static void firstErrorOfText() {
        Check.dueError("class 15 3;kind 99", 2, 6);
        Check.dueError("class 5 3;pair 0 0", 2, 8);
        Check.dueError("class 5 0;kind 5;pair 0 0", 2, 15);
        Check.dueError("class 5 0;pair 0 0;kind 5", 3, 17);
        Check.dueError("class 5 0;pair 0 1;friend 0 0", 5, 17);
        Check.dueError("class 5 0;friend 0 1;pair 0 1;pair 1 1 ?", 4, 35);
        Check.dueError("class 5 0;ring 0 1;?", 1, 18);
        Check.dueError("?class 15 3", 1, 0);
    }

    private static void smallestCodeOfToken() {
        Check.dueError("class 5 0 99", 1, 10);
        Check.dueError("class 5 0;99", 1, 10);
        Check.dueError("class 5 0;friend 0 1;pair 0 1 99", 1, 30);
        Check.dueError("class 5 0;friend 0 1;pair 0 1 0", 1, 30);
        Check.dueError("class 5 0;friend 0 1;pair 0 1;pair 2 1", 4, 37);
        Check.dueError("class 5 0;friend 0 1;pair 0 1;pair 1 0", 4, 35);
        Check.dueError("class 5 0;pair 3 3", 3, 17);
        Check.dueError("class 5 0;ring 3 3", 3, 17);
        Check.dueError("class 5 0;ring 3 4 03", 3, 19);
        Check.dueError("class 5 0;friend 3 03", 3, 19);
    }

    private static void linesAtTheirBounds() {
        Check.dueError("class 14 0;ring 0 1 2 3 4 5 6 7 8 9 10 11 12 13", 0, -1);
        Check.dueError("class 14 0;ring 0 1 2 3 4 5 6 7 8 9 10 11 12 13 0", 3, 48);
        Check.dueError("class 14 0;friend 13 0 1 2 3 4 5 6 7 8 9 10 11 12", 0, -1);
        Check.dueError("class 14 0;friend 13 0 1 2 3 4 5 6 7 8 9 10 11 12 13", 3, 50);
        Check.dueError("class 14 0;kind 0 1 2 3 4 5 6 7 8 9 10 11 12 13 0 13", 0, -1);
        Check.dueError("class 3 0;ring 0", 1, 16);
        Check.dueError("class 3 0;ring", 1, 14);
        Check.dueError("class 3 0;ring 0 1 2", 0, -1);
        Check.dueError("class 3 0;friend", 1, 16);
        Check.dueError("class 3 0;friend 0 1", 0, -1);
        Check.dueError("class 3 0;friend 0 1;pair", 1, 25);
        Check.dueError("class 3 0;friend 0 1;pair 0;", 1, 27);
        Check.dueError("class 3 0;friend 0 1;pair 0 1;", 1, 30);
        PupilPairs x = Check.loaded("class 14 0;ring 0 1 2 3 4 5 6 7 8 9 10 11 12 13");
        Check.due("all 14 are in the ring", x.count(1) + " " + x.friends(13, 0) + " " + x.friends(12, 13), "14 true true");
        PupilPairs three = Check.loaded("class 4 0;ring 3 1 2");
        Check.due("a ring of three", three.friends(3, 1) && three.friends(1, 2) && three.friends(2, 3), true);
        Check.due("no more friends", three.count(1), 3);
    }

    private static void toldAlready() {
        PupilPairs x = Check.loaded("class 4 0;kind 1 1;kind 1;friend 0 1 1;friend 1 0;ring 0 1 2;ring 2 1 0");
        Check.due("kinds that were told already", x.count(6) + " " + x.pupil(1, 0) + " " + x.pupil(0, 0), "1 1 0");
        Check.due("friendships that were told already", x.count(1), 3);
    }

    private static void kindBehindPair() {
        String pairs = "class 6 1;kind 0 2 4;ring 0 1 2 3 4 5;pair 0 1;pair 2 3";
        Check.due("RULE allows both", Check.pairs(Check.loaded(pairs)), "0-1 2-3");
        PupilPairs x = Check.loaded(pairs + ";kind 3");
        Check.due("it is no pair then", Check.pairs(x) + " " + x.pupil(2, 3) + " " + x.pupil(3, 3), "0-1 -1 -1");
        Check.due("and not lost", x.count(10) + " " + x.undoable(), "0 0");
        Check.dueError(pairs + ";kind 3;pair 4 3", 4, 70);
        Check.dueError(pairs + ";kind 3;pair 3 4", 4, 68);
        Check.due("kinds of before the pair are told again", Check.pairs(Check.loaded(pairs + ";kind 0 2 4")), "0-1 2-3");
        Check.due("both pairs go", Check.pairs(Check.loaded(pairs + ";kind 1 3")), ".");
    }

    private static String filledUp(String text, char sign) {
        char[] rest = new char[500 - text.length()];
        Arrays.fill(rest, sign);
        return text + new String(rest);
    }

    private static void fullBuffer() {
        Check.dueError(filledUp("class 3 0;kind 2", ' '), 0, -1);
        Check.dueError(filledUp("class 3 0;kind 2;", ' '), 1, 500);
        Check.dueError(filledUp("class 3 0;kind ", 'a'), 1, 15);
        Check.dueError(filledUp("class 3 0;kind ", '1'), 1, 15);
        Check.dueError(filledUp("class 3 0", ' ').substring(0, 499) + "?", 1, 499);
        Check.dueError(filledUp("class 3 0;kind", ' ').substring(0, 498) + " 2", 0, -1);
        Check.dueError(filledUp("class 3 0;kind", ' ').substring(0, 498) + " 3", 2, 499);
        StringBuilder lines = new StringBuilder("class 3 0 ");
        for (int i = 0; i < 70; i++) {
            lines.append(";kind 2");
        }
        Check.dueError(lines.toString(), 0, -1);
        Check.dueError(lines.toString().replaceFirst("0 ;", "0;") + ";", 1, 500);
    }

    /** Each begin of a text, and each text with another byte at one place, is read as the Model reads it. */
    private static void asModelReads() {
        String signs = " ;0129afkprz?\u00e9";
        for (int at = 0; at <= LONG_TEXT.length(); at++) {
            dueAsModel(LONG_TEXT.substring(0, at));
            for (int i = 0; i < signs.length() && at < LONG_TEXT.length(); i++) {
                dueAsModel(LONG_TEXT.substring(0, at) + signs.charAt(i) + LONG_TEXT.substring(at + 1));
            }
        }
    }

    private static void dueAsModel(String text) {
        Model model = new Model();
        int[] words = Check.words(text);
        for (int i = 0; i < words.length; i += 5) {
            model.append(words[i], words[i + 1], words[i + 2], words[i + 3], words[i + 4]);
        }
        try {
            model.load(text.length());
        } catch (IllegalArgumentException bad) {
            Check.due("'" + text + "' has an error", model.parseError() > 0, true);
        }
        Check.dueError(text, model.parseError(), model.errorPosition());
    }
}

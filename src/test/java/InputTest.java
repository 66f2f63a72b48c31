/** Promises 1 to 6, and the text format (section 6). */
public final class InputTest {
    public static void main(String[] args) {
        newObject();
        appendAndBuffered();
        placesOfBytes();
        appendOfTooMany();
        loadAndItsExceptions();
        loadOfNothing();
        codesOfLatestLoad();
        loadReplaces();
        loadForgetsKindsAndSums();
        headErrors();
        tokenErrors();
        lineErrors();
        pairErrors();
        whatLinesTell();
        kindBehindPair();
        Check.finish();
    }

    private static void newObject() {
        PupilPairs x = new PupilPairs();
        Check.due("new: buffered", x.buffered(), 0);
        Check.due("new: parseError", x.parseError(), 0);
        Check.due("new: errorPosition", x.errorPosition(), -1);
        Check.due("new: undoable", x.undoable(), 0);
        Check.dueThrows("new: count", Check.STATE, () -> x.count(0));
        Check.dueThrows("new: count of nothing", Check.STATE, () -> x.count(99));
        Check.dueThrows("new: pupil", Check.STATE, () -> x.pupil(0, 0));
        Check.dueThrows("new: textByte", Check.INDEX, () -> x.textByte(0));
        Check.dueThrows("new: undo", Check.STATE, x::undo);
        Check.dueThrows("new: save", Check.STATE, () -> x.save(5));
        Check.dueThrows("new: restore", Check.STATE, () -> x.restore(1));
        Check.dueThrows("new: restore of no slot", Check.INDEX, () -> x.restore(2));
        Check.dueThrows("new: load(1)", Check.INDEX, () -> x.load(1));
        Check.due("new: parseError behind load(1)", x.parseError(), 0);
    }

    private static void appendAndBuffered() {
        PupilPairs x = new PupilPairs();
        Check.due("append", x.append(0x636c6173, 0x73203320, 0x303b6b69, 0x6e642031, 0x20322020), 20);
        Check.due("load of the bytes in order", x.load(20), 3);
        Check.due("kinds", x.count(6), 2);
        Check.due("buffered behind load", x.buffered(), 0);
    }

    /** A byte that starts no token, among blanks, is found at its place; 0xe9 has the bit of the sign. */
    private static void placesOfBytes() {
        for (int place = 0; place < 20; place++) {
            PupilPairs x = new PupilPairs();
            int[] words = new int[5];
            for (int i = 0; i < 20; i++) {
                words[i / 4] = words[i / 4] << 8 | (i == place ? 0xe9 : 32);
            }
            x.append(words[0], words[1], words[2], words[3], words[4]);
            Check.dueThrows("byte " + place, Check.ARGUMENT, () -> x.load(20));
            Check.due("place of byte " + place, x.parseError() + " " + x.errorPosition(), "1 " + place);
        }
        PupilPairs y = new PupilPairs();
        Check.append(y, "class 1 0");
        Check.due("ints at both ends", y.append(Integer.MIN_VALUE, Integer.MAX_VALUE, 0, -1, 1), 40);
        Check.dueThrows("their first byte", Check.ARGUMENT, () -> y.load(21));
        Check.due("it starts no token", y.parseError() + " " + y.errorPosition(), "1 20");
    }

    /** Behind 480 bytes there is room for twenty more, behind 500 for none. */
    private static void appendOfTooMany() {
        PupilPairs x = new PupilPairs();
        StringBuilder text = new StringBuilder("class 3 0");
        while (text.length() < 480) {
            text.append(' ');
        }
        Check.due("480 bytes", Check.append(x, text.toString()), 480);
        Check.due("500 bytes", Check.append(x, ";kind 1 2"), 500);
        Check.due("one block too many", Check.append(x, " 0"), -1);
        Check.due("buffered", x.buffered(), 500);
        Check.due("once more", x.append(-1, -1, -1, -1, -1), -1);
        Check.due("nothing of it was appended", x.load(500) + " " + x.count(6), "3 2");
        Check.due("there is room again", Check.append(x, "class 1 0"), 20);
    }

    private static void loadOfNothing() {
        PupilPairs x = new PupilPairs();
        Check.dueThrows("load(0) of an empty buffer", Check.ARGUMENT, () -> x.load(0));
        Check.due("nothing is no class", x.parseError() + " " + x.errorPosition(), "1 0");
        Check.append(x, "class 1 0");
        Check.dueThrows("load(0)", Check.ARGUMENT, () -> x.load(0));
        Check.due("the buffer is empty", x.buffered(), 0);
        Check.dueThrows("no text was loaded", Check.STATE, () -> x.count(0));
        Check.append(x, "class 1 0");
        Check.due("the smallest class", x.load(9), 1);
        Check.append(x, "class 14 0");
        Check.due("the greatest class", x.load(10), 14);
    }

    private static void codesOfLatestLoad() {
        PupilPairs x = new PupilPairs();
        Check.dueThrows("an error", Check.ARGUMENT, () -> Check.load(x, "class 3 9"));
        Check.due("its code", x.parseError() + " " + x.errorPosition(), "2 8");
        Check.dueThrows("another error", Check.ARGUMENT, () -> Check.load(x, "class 3 0;pair 0 1"));
        Check.due("the code of the latest load", x.parseError() + " " + x.errorPosition(), "5 17");
        Check.append(x, "class 3 0");
        Check.dueThrows("load(21)", Check.INDEX, () -> x.load(21));
        Check.due("the code of the load before", x.parseError() + " " + x.errorPosition(), "5 17");
        Check.due("load of all bytes", x.load(20), 3);
        Check.due("no code", x.parseError() + " " + x.errorPosition(), "0 -1");
        Check.dueThrows("load(1)", Check.INDEX, () -> x.load(1));
        Check.due("still no code", x.parseError() + " " + x.errorPosition(), "0 -1");
    }

    private static void loadAndItsExceptions() {
        PupilPairs x = new PupilPairs();
        for (int i = 1; i <= 25; i++) {
            Check.due("append " + i, x.append(0x20202020, 0x20202020, 0x20202020, 0x20202020, 0x20202020), 20 * i);
        }
        Check.due("append of more than 500 bytes", x.append(0, 0, 0, 0, 0), -1);
        Check.due("buffered", x.buffered(), 500);
        Check.dueThrows("load(501)", Check.INDEX, () -> x.load(501));
        Check.dueThrows("load(-1)", Check.INDEX, () -> x.load(-1));
        Check.due("buffered behind load(-1)", x.buffered(), 500);
        Check.due("parseError behind load(-1)", x.parseError(), 0);
        Check.due("errorPosition behind load(-1)", x.errorPosition(), -1);
        Check.dueThrows("load of blanks", Check.ARGUMENT, () -> x.load(500));
        Check.due("parseError of blanks", x.parseError(), 1);
        Check.due("errorPosition of blanks", x.errorPosition(), 500);
        Check.due("buffered behind a bad text", x.buffered(), 0);
        Check.dueThrows("load(1) behind a bad text", Check.INDEX, () -> x.load(1));
        Check.due("errorPosition stays", x.errorPosition(), 500);
        Check.append(x, "class 7 0 rest that is not parsed");
        Check.due("load of a part", x.load(9), 7);
        Check.due("all of the buffer is gone", x.buffered(), 0);
        Check.append(x, "class 7 02");
        Check.due("load of a part of a number", x.load(9) + " " + x.count(5), "7 0");
        Check.append(x, "class 5 0;kind 0;pair");
        Check.dueThrows("load of a part of a word", Check.ARGUMENT, () -> x.load(20));
        Check.due("the place of the word", x.errorPosition(), 17);
        Check.append(x, "class 7 0");
        x.load(20);
        Check.due("parseError 0", x.parseError(), 0);
        Check.due("errorPosition NONE", x.errorPosition(), -1);
    }

    private static void loadReplaces() {
        PupilPairs x = Check.loaded("class 4 0;friend 0 1 2;pair 0 1");
        x.part(0);
        x.fill();
        x.seek(3);
        x.save(0);
        int written = x.writePairs();
        Check.dueThrows("bad text", Check.ARGUMENT, () -> Check.load(x, "class 4 0;pair 0 1"));
        Check.due("the previous class stays", x.count(1) + " " + x.count(10) + " " + x.search(0), "2 1 1");
        Check.due("changes stay", x.undoable(), 3);
        Check.due("load", Check.load(x, "class 14 2"), 14);
        Check.due("no search", x.search(0), 0);
        for (int what = 7; what <= 10; what++) {
            Check.due("sum " + what, x.count(what), 0);
        }
        Check.due("nothing to undo", x.undoable(), 0);
        Check.dueThrows("nothing saved", Check.STATE, () -> x.restore(0));
        Check.due("the text stays", Check.written(x, written), "0-1");
        Check.due("RULE", x.count(5), 2);
        Check.due("pupils", x.count(0), 14);
        Check.due("no friendships", x.count(1), 0);
        Check.due("all are free", x.count(4), 14);
    }

    private static void loadForgetsKindsAndSums() {
        PupilPairs x = Check.loaded("class 5 1;kind 0 1 2 3 4;ring 0 1 2");
        Check.due("another class", Check.load(x, "class 5 0;kind 4;ring 0 1 2;friend 3 2 4;pair 1 2"), 5);
        Check.due("its kinds and RULE alone", x.count(6) + " " + x.pupil(0, 0) + " " + x.count(5), "1 0 0");
        x.fill();
        x.part(0);
        Check.due("sums", x.count(7) + " " + x.count(8) + " " + x.count(9) + " " + x.count(10), "1 1 2 1");
        Check.load(x, "class 5 0;friend 0 1");
        Check.due("sums are 0", x.count(7) + " " + x.count(8) + " " + x.count(9) + " " + x.count(10), "0 0 0 0");
        Check.due("its friends and pairs alone", x.count(1) + " " + Check.pairs(x), "1 .");
    }

    private static void headErrors() {
        Check.dueError("", 1, 0);
        Check.dueError("   ", 1, 3);
        Check.dueError("clas 3 0", 1, 0);
        Check.dueError("3 0", 1, 0);
        Check.dueError("classes 3 0", 1, 0);
        Check.dueError("classy 3 0", 1, 0);
        Check.dueError("glass 3 0", 1, 0);
        Check.dueError("class", 1, 5);
        Check.dueError("class ;", 1, 6);
        Check.dueError("class 0 0", 2, 6);
        Check.dueError("class 00 0", 2, 6);
        Check.dueError("class 15 0", 2, 6);
        Check.dueError("class 99 0", 2, 6);
        Check.dueError("class 014 0", 1, 6);
        Check.dueError("class 14 0", 0, -1);
        Check.dueError("class 01 02", 0, -1);
        Check.dueError("class 1 3", 2, 8);
        Check.dueError("class 1", 1, 7);
        Check.dueError("class 1 ", 1, 8);
        Check.dueError("class 1 pair", 1, 8);
        Check.dueError("class 5 0 1", 1, 10);
        Check.dueError("class 5 0 pair", 1, 10);
        Check.dueError("class5 0", 0, -1);
        Check.dueError("  class  5  0  ", 0, -1);
    }

    private static void tokenErrors() {
        Check.dueError("Class 5 0", 1, 0);
        Check.dueError("classX5 0", 1, 5);
        Check.dueError("class 5 0\u00e9", 1, 9);
        Check.dueError("class 5 0\n", 1, 9);
        Check.dueError("class 5 0;kind 1-2", 1, 16);
        Check.dueError("class 5 0;friends 0 1", 1, 10);
        Check.dueError("class 5 0;frien 0 1", 1, 10);
        Check.dueError("class 5 0;kinds 0", 1, 10);
        Check.dueError("class 5 0;mind 0", 1, 10);
        Check.dueError("class 5 0;king 0 1 2", 1, 10);
        Check.dueError("class 5 0;fair 0 1", 1, 10);
        Check.dueError("class 5 0;kind 001", 1, 15);
        Check.dueError("class 5 0;kind 999", 1, 15);
        Check.dueError("class 5 0;kind 01 00", 0, -1);
        Check.dueError("class 5 0;kind0 1;friend2 3", 0, -1);
        Check.dueError("class 5 0;kind 0kind", 1, 16);
    }

    private static void lineErrors() {
        Check.dueError("class 5 0;", 1, 10);
        Check.dueError("class 5 0; ;", 1, 11);
        Check.dueError("class 5 0;;kind 0", 1, 10);
        Check.dueError("class 5 0;class", 1, 10);
        Check.dueError("class 5 0;kind", 1, 14);
        Check.dueError("class 5 0;kind;kind 0", 1, 14);
        Check.dueError("class 5 0;kind 5", 2, 15);
        Check.dueError("class 5 0;kind 4 4 0", 0, -1);
        Check.dueError("class 5 0;friend 0", 1, 18);
        Check.dueError("class 5 0;friend 0;kind 1", 1, 18);
        Check.dueError("class 5 0;friend 0 0", 3, 19);
        Check.dueError("class 5 0;friend 0 1 0", 3, 21);
        Check.dueError("class 5 0;friend 0 5", 2, 19);
        Check.dueError("class 5 0;friend 5 5", 2, 17);
        Check.dueError("class 5 0;friend 0 1 1 2", 0, -1);
        Check.dueError("class 5 0;ring 0 1", 1, 18);
        Check.dueError("class 5 0;ring 0 1;kind 0", 1, 18);
        Check.dueError("class 5 0;ring 0 0 1", 3, 17);
        Check.dueError("class 5 0;ring 0 1 2 1", 3, 21);
        Check.dueError("class 5 0;ring 0 1 5", 2, 19);
        Check.dueError("class 5 0;ring 0 1 2 3 4", 0, -1);
    }

    private static void pairErrors() {
        Check.dueError("class 5 0;ring 0 1 2;pair 0", 1, 27);
        Check.dueError("class 5 0;ring 0 1 2;pair 0 1 2", 1, 30);
        Check.dueError("class 5 0;ring 0 1 2;pair 0 0", 3, 28);
        Check.dueError("class 5 0;ring 0 1 2;pair 5 0", 2, 26);
        Check.dueError("class 5 0;ring 0 1 2;pair 0 5", 2, 28);
        Check.dueError("class 5 0;ring 0 1 2;pair 0 3", 5, 28);
        Check.dueError("class 5 0;pair 0 1;friend 0 1", 5, 17);
        Check.dueError("class 5 0;ring 0 1 2;pair 0 1;pair 1 2", 4, 35);
        Check.dueError("class 5 0;ring 0 1 2;pair 0 1;pair 2 1", 4, 37);
        Check.dueError("class 5 0;ring 0 1 2;pair 0 1;pair 3 1", 4, 37);
        Check.dueError("class 5 0;ring 0 1 2;pair 0 1;pair 1 1", 4, 35);
        Check.dueError("class 5 1;ring 0 1 2;pair 0 1", 5, 28);
        Check.dueError("class 5 1;kind 0;ring 0 1 2;pair 0 1", 0, -1);
        Check.dueError("class 5 2;kind 0;ring 0 1 2;pair 0 1", 5, 35);
        Check.dueError("class 5 2;kind 0 1;ring 0 1 2;pair 0 1", 0, -1);
    }

    private static void whatLinesTell() {
        PupilPairs x = Check.loaded("class 12 0;kind 3 11;friend 2 0 1 0;friend 1 2;ring 5 7 9 11;pair 1 02");
        Check.due("friendships", x.count(1), 6);
        Check.due("friends of 2", x.friends(2, 0) && x.friends(2, 1) && x.friends(0, 2), true);
        Check.due("0 and 1", x.friends(0, 1), false);
        Check.due("the ring", x.friends(5, 7) && x.friends(7, 9) && x.friends(9, 11) && x.friends(11, 5), true);
        Check.due("across the ring", x.friends(5, 9) || x.friends(7, 11), false);
        Check.due("kinds", x.pupil(3, 0) + x.pupil(11, 0) + x.count(6), 4);
        Check.due("the pair", Check.pairs(x), "1-2");
        Check.due("no search made it", x.count(7), 0);
    }

    private static void kindBehindPair() {
        PupilPairs x = Check.loaded("class 4 2;ring 0 1 2 3;pair 0 1;pair 2 3;kind 0");
        Check.due("pairs that RULE allows at the end", Check.pairs(x), "2-3");
        Check.due("none is lost", x.count(10), 0);
        Check.due("allowed again at the end", Check.pairs(Check.loaded("class 2 2;friend 0 1;pair 0 1;kind 0;kind 1")),
            "0-1");
        Check.dueError("class 4 2;ring 0 1 2 3;pair 0 1;kind 0;pair 1 2", 4, 44);
        Check.due("RULE 0", Check.pairs(Check.loaded("class 2 0;friend 0 1;pair 0 1;kind 0")), "0-1");
        Check.due("RULE 1", Check.pairs(Check.loaded("class 2 1;kind 0;friend 0 1;pair 0 1;kind 1")), ".");
    }
}

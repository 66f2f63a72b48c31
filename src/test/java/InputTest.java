/** Promises 1 to 6, and the text format (section 6). */
public final class InputTest {
    public static void main(String[] args) {
        newObject();
        appendAndBuffered();
        loadAndItsExceptions();
        loadReplaces();
        headErrors();
        tokenErrors();
        lineErrors();
        pairErrors();
        whatLinesTell();
        kindBehindPair();
        Check.finish();
    }

    private static void newObject() {
        PupilPairs x = new PupilPairs();
        Check.due("new: buffered", x.buffered(), 0);
        Check.due("new: parseError", x.parseError(), 0);
        Check.due("new: errorPosition", x.errorPosition(), -1);
        Check.due("new: undoable", x.undoable(), 0);
        Check.dueThrows("new: count", Check.STATE, () -> x.count(0));
        Check.dueThrows("new: count of nothing", Check.STATE, () -> x.count(99));
        Check.dueThrows("new: pupil", Check.STATE, () -> x.pupil(0, 0));
        Check.dueThrows("new: textByte", Check.INDEX, () -> x.textByte(0));
        Check.dueThrows("new: undo", Check.STATE, x::undo);
        Check.dueThrows("new: save", Check.STATE, () -> x.save(5));
        Check.dueThrows("new: restore", Check.STATE, () -> x.restore(1));
        Check.dueThrows("new: restore of no slot", Check.INDEX, () -> x.restore(2));
        Check.dueThrows("new: load(1)", Check.INDEX, () -> x.load(1));
        Check.due("new: parseError behind load(1)", x.parseError(), 0);
    }

    private static void appendAndBuffered() {
        PupilPairs x = new PupilPairs();
        Check.due("append", x.append(0x636c6173, 0x73203320, 0x303b6b69, 0x6e642031, 0x20322020), 20);
        Check.due("load of the bytes in order", x.load(20), 3);
        Check.due("kinds", x.count(6), 2);
        Check.due("buffered behind load", x.buffered(), 0);
    }

    private static void loadAndItsExceptions() {
        PupilPairs x = new PupilPairs();
        for (int i = 1; i <= 25; i++) {
            Check.due("append " + i, x.append(0x20202020, 0x20202020, 0x20202020, 0x20202020, 0x20202020), 20 * i);
        }
        Check.due("append of more than 500 bytes", x.append(0, 0, 0, 0, 0), -1);
        Check.due("buffered", x.buffered(), 500);
        Check.dueThrows("load(501)", Check.INDEX, () -> x.load(501));
        Check.dueThrows("load(-1)", Check.INDEX, () -> x.load(-1));
        Check.due("buffered behind load(-1)", x.buffered(), 500);
        Check.due("parseError behind load(-1)", x.parseError(), 0);
        Check.due("errorPosition behind load(-1)", x.errorPosition(), -1);
        Check.dueThrows("load of blanks", Check.ARGUMENT, () -> x.load(500));
        Check.due("parseError of blanks", x.parseError(), 1);
        Check.due("errorPosition of blanks", x.errorPosition(), 500);
        Check.due("buffered behind a bad text", x.buffered(), 0);
        Check.dueThrows("load(1) behind a bad text", Check.INDEX, () -> x.load(1));
        Check.due("errorPosition stays", x.errorPosition(), 500);
        Check.append(x, "class 7 0 rest that is not parsed");
        Check.due("load of a part", x.load(9), 7);
        Check.due("all of the buffer is gone", x.buffered(), 0);
        Check.append(x, "class 7 02");
        Check.due("load of a part of a number", x.load(9) + " " + x.count(5), "7 0");
        Check.append(x, "class 5 0;kind 0;pair");
        Check.dueThrows("load of a part of a word", Check.ARGUMENT, () -> x.load(20));
        Check.due("the place of the word", x.errorPosition(), 17);
        Check.append(x, "class 7 0");
        x.load(20);
        Check.due("parseError 0", x.parseError(), 0);
        Check.due("errorPosition NONE", x.errorPosition(), -1);
    }

    private static void loadReplaces() {
        PupilPairs x = Check.loaded("class 4 0;friend 0 1 2;pair 0 1");
        x.part(0);
        x.fill();
        x.seek(3);
        x.save(0);
        int written = x.writePairs();
        Check.dueThrows("bad text", Check.ARGUMENT, () -> Check.load(x, "class 4 0;pair 0 1"));
        Check.due("the previous class stays", x.count(1) + " " + x.count(10) + " " + x.search(0), "2 1 1");
        Check.due("changes stay", x.undoable(), 3);
        Check.due("load", Check.load(x, "class 14 2"), 14);
        Check.due("no search", x.search(0), 0);
        for (int what = 7; what <= 10; what++) {
            Check.due("sum " + what, x.count(what), 0);
        }
        Check.due("nothing to undo", x.undoable(), 0);
        Check.dueThrows("nothing saved", Check.STATE, () -> x.restore(0));
        Check.due("the text stays", Check.written(x, written), "0-1");
        Check.due("RULE", x.count(5), 2);
        Check.due("pupils", x.count(0), 14);
        Check.due("no friendships", x.count(1), 0);
        Check.due("all are free", x.count(4), 14);
    }

    /** The text has this error at this place, and none if the code is 0. */
    private static void dueError(String text, int code, int at) {
        PupilPairs x = new PupilPairs();
        Check.append(x, text);
        try {
            x.load(text.length());
            Check.due("'" + text + "'", "loaded", code == 0 ? "loaded" : "error " + code);
        } catch (IllegalArgumentException thrown) {
            Check.due("'" + text + "' has an error", code != 0, true);
        }
        Check.due("parseError of '" + text + "'", x.parseError(), code);
        Check.due("errorPosition of '" + text + "'", x.errorPosition(), at);
    }

    private static void headErrors() {
        dueError("", 1, 0);
        dueError("   ", 1, 3);
        dueError("clas 3 0", 1, 0);
        dueError("3 0", 1, 0);
        dueError("classes 3 0", 1, 0);
        dueError("classy 3 0", 1, 0);
        dueError("glass 3 0", 1, 0);
        dueError("class", 1, 5);
        dueError("class ;", 1, 6);
        dueError("class 0 0", 2, 6);
        dueError("class 00 0", 2, 6);
        dueError("class 15 0", 2, 6);
        dueError("class 99 0", 2, 6);
        dueError("class 014 0", 1, 6);
        dueError("class 14 0", 0, -1);
        dueError("class 01 02", 0, -1);
        dueError("class 1 3", 2, 8);
        dueError("class 1", 1, 7);
        dueError("class 1 ", 1, 8);
        dueError("class 1 pair", 1, 8);
        dueError("class 5 0 1", 1, 10);
        dueError("class 5 0 pair", 1, 10);
        dueError("class5 0", 0, -1);
        dueError("  class  5  0  ", 0, -1);
    }

    private static void tokenErrors() {
        dueError("Class 5 0", 1, 0);
        dueError("classX5 0", 1, 5);
        dueError("class 5 0\u00e9", 1, 9);
        dueError("class 5 0\n", 1, 9);
        dueError("class 5 0;kind 1-2", 1, 16);
        dueError("class 5 0;friends 0 1", 1, 10);
        dueError("class 5 0;frien 0 1", 1, 10);
        dueError("class 5 0;kinds 0", 1, 10);
        dueError("class 5 0;mind 0", 1, 10);
        dueError("class 5 0;king 0 1 2", 1, 10);
        dueError("class 5 0;fair 0 1", 1, 10);
        dueError("class 5 0;kind 001", 1, 15);
        dueError("class 5 0;kind 999", 1, 15);
        dueError("class 5 0;kind 01 00", 0, -1);
        dueError("class 5 0;kind0 1;friend2 3", 0, -1);
        dueError("class 5 0;kind 0kind", 1, 16);
    }

    private static void lineErrors() {
        dueError("class 5 0;", 1, 10);
        dueError("class 5 0; ;", 1, 11);
        dueError("class 5 0;;kind 0", 1, 10);
        dueError("class 5 0;class", 1, 10);
        dueError("class 5 0;kind", 1, 14);
        dueError("class 5 0;kind;kind 0", 1, 14);
        dueError("class 5 0;kind 5", 2, 15);
        dueError("class 5 0;kind 4 4 0", 0, -1);
        dueError("class 5 0;friend 0", 1, 18);
        dueError("class 5 0;friend 0;kind 1", 1, 18);
        dueError("class 5 0;friend 0 0", 3, 19);
        dueError("class 5 0;friend 0 1 0", 3, 21);
        dueError("class 5 0;friend 0 5", 2, 19);
        dueError("class 5 0;friend 5 5", 2, 17);
        dueError("class 5 0;friend 0 1 1 2", 0, -1);
        dueError("class 5 0;ring 0 1", 1, 18);
        dueError("class 5 0;ring 0 1;kind 0", 1, 18);
        dueError("class 5 0;ring 0 0 1", 3, 17);
        dueError("class 5 0;ring 0 1 2 1", 3, 21);
        dueError("class 5 0;ring 0 1 5", 2, 19);
        dueError("class 5 0;ring 0 1 2 3 4", 0, -1);
    }

    private static void pairErrors() {
        dueError("class 5 0;ring 0 1 2;pair 0", 1, 27);
        dueError("class 5 0;ring 0 1 2;pair 0 1 2", 1, 30);
        dueError("class 5 0;ring 0 1 2;pair 0 0", 3, 28);
        dueError("class 5 0;ring 0 1 2;pair 5 0", 2, 26);
        dueError("class 5 0;ring 0 1 2;pair 0 5", 2, 28);
        dueError("class 5 0;ring 0 1 2;pair 0 3", 5, 28);
        dueError("class 5 0;pair 0 1;friend 0 1", 5, 17);
        dueError("class 5 0;ring 0 1 2;pair 0 1;pair 1 2", 4, 35);
        dueError("class 5 0;ring 0 1 2;pair 0 1;pair 2 1", 4, 37);
        dueError("class 5 0;ring 0 1 2;pair 0 1;pair 3 1", 4, 37);
        dueError("class 5 0;ring 0 1 2;pair 0 1;pair 1 1", 4, 35);
        dueError("class 5 1;ring 0 1 2;pair 0 1", 5, 28);
        dueError("class 5 1;kind 0;ring 0 1 2;pair 0 1", 0, -1);
        dueError("class 5 2;kind 0;ring 0 1 2;pair 0 1", 5, 35);
        dueError("class 5 2;kind 0 1;ring 0 1 2;pair 0 1", 0, -1);
    }

    private static void whatLinesTell() {
        PupilPairs x = Check.loaded("class 12 0;kind 3 11;friend 2 0 1 0;friend 1 2;ring 5 7 9 11;pair 1 02");
        Check.due("friendships", x.count(1), 6);
        Check.due("friends of 2", x.friends(2, 0) && x.friends(2, 1) && x.friends(0, 2), true);
        Check.due("0 and 1", x.friends(0, 1), false);
        Check.due("the ring", x.friends(5, 7) && x.friends(7, 9) && x.friends(9, 11) && x.friends(11, 5), true);
        Check.due("across the ring", x.friends(5, 9) || x.friends(7, 11), false);
        Check.due("kinds", x.pupil(3, 0) + x.pupil(11, 0) + x.count(6), 4);
        Check.due("the pair", Check.pairs(x), "1-2");
        Check.due("no search made it", x.count(7), 0);
    }

    private static void kindBehindPair() {
        PupilPairs x = Check.loaded("class 4 2;ring 0 1 2 3;pair 0 1;pair 2 3;kind 0");
        Check.due("pairs that RULE allows at the end", Check.pairs(x), "2-3");
        Check.due("none is lost", x.count(10), 0);
        Check.due("allowed again at the end", Check.pairs(Check.loaded("class 2 2;friend 0 1;pair 0 1;kind 0;kind 1")),
            "0-1");
        dueError("class 4 2;ring 0 1 2 3;pair 0 1;kind 0;pair 1 2", 4, 44);
        Check.due("RULE 0", Check.pairs(Check.loaded("class 2 0;friend 0 1;pair 0 1;kind 0")), "0-1");
        Check.due("RULE 1", Check.pairs(Check.loaded("class 2 1;kind 0;friend 0 1;pair 0 1;kind 1")), ".");
    }
}

/** Promises 48 to 51. */
public final class TextsTest {
    public static void main(String[] args) {
        pairs();
        groups();
        ways();
        longestTexts();
        endedSearches();
        textStays();
        wrongInputs();
        Check.finish();
    }

    private static PupilPairs ring(int pupils) {
        StringBuilder text = new StringBuilder("class " + pupils + " 0;ring");
        for (int p = 0; p < pupils; p++) {
            text.append(' ').append(p);
        }
        return Check.loaded(text.toString());
    }

    private static void pairs() {
        PupilPairs x = ring(14);
        Check.due("no pairs", x.writePairs(), 1);
        Check.due("a dot", Check.pairs(x), ".");
        x.pair(13, 0);
        x.pair(9, 10);
        x.pair(2, 1);
        Check.due("by the smaller pupils", Check.pairs(x), "0-13 1-2 9-10");
        x.part(0);
        x.fill();
        Check.due("all", Check.pairs(x).length(), x.writePairs());
    }

    private static void groups() {
        PupilPairs x = ring(13);
        Check.due("no search", Check.groups(x), ".");
        x.fill();
        Check.due("no search behind fill", Check.groups(x), ".");
        x.seek(12);
        Check.due("ROOT alone", Check.groups(x), "12o");
        x.step();
        Check.due("both kinds of labels", Check.groups(x), "0i 1o 12o");
        x.run();
        Check.due("all in a blossom", Check.groups(x), "0+1+2+3+4+5+6+7+8+9+10+11+12o");
        Check.due("its length", x.writeGroups(), 29);
    }

    private static void ways() {
        PupilPairs x = ring(13);
        Check.due("no search", Check.way(x, 0), ".");
        x.fill();
        x.seek(12);
        Check.due("ROOT", Check.way(x, 12), "12");
        x.run();
        Check.due("one side", Check.way(x, 1), "1>0>12");
        Check.due("the other side", Check.way(x, 0), "0>1>2>3>4>5>6>7>8>9>10>11>12");
        Check.due("its length", x.writeWay(0), 28);
    }

    private static void longestTexts() {
        PupilPairs x = Check.loaded("class 14 0;friend 13 0 2 4 6 8 10;friend 0 1;friend 2 3;friend 4 5;friend 6 7"
            + ";friend 8 9;friend 10 11;pair 0 1;pair 2 3;pair 4 5;pair 6 7;pair 8 9;pair 10 11");
        x.seek(13);
        Check.due("run", x.run() + " " + x.search(0), "19 3");
        Check.due("13 groups", Check.groups(x), "0i 1o 2i 3o 4i 5o 6i 7o 8i 9o 10i 11o 13o");
        Check.due("6 pairs", Check.pairs(x), "0-1 2-3 4-5 6-7 8-9 10-11");
        x.befriend(12, 13, true);
        x.pair(12, 13);
        Check.due("7 pairs", Check.pairs(x), "0-1 2-3 4-5 6-7 8-9 10-11 12-13");
        Check.due("their length", x.writePairs(), 31);
        Check.due("the last byte", x.textByte(30), 51);
        Check.dueThrows("behind it", Check.INDEX, () -> x.textByte(31));
    }

    private static void endedSearches() {
        PupilPairs x = Check.loaded(Situations.SMALL);
        x.seek(0);
        x.run();
        Check.due("groups of a search that has found", Check.groups(x), "0+1+2o");
        Check.due("no ways of it", Check.way(x, 0), ".");
        Check.due("the pairs it made", Check.pairs(x), "0-1 2-3");
        x.seek(4);
        x.run();
        Check.due("groups of a search that has failed", Check.groups(x), "0+1+2o 3i 4o");
        Check.due("ways of it", Check.way(x, 2) + " " + Check.way(x, 3), "2>3>4 .");
        x.setRule(0);
        Check.due("groups and ways of none", Check.groups(x) + " " + Check.way(x, 4), ". .");
    }

    private static void textStays() {
        PupilPairs x = ring(3);
        x.pair(0, 1);
        x.writePairs();
        x.undo();
        x.save(0);
        x.restore(0);
        Check.due("byte 1", x.textByte(1), 45);
        Check.due("byte 2", x.textByte(2), 49);
        Check.dueThrows("a pupil that is not there", Check.INDEX, () -> x.writeWay(3));
        Check.due("the text of before", x.textByte(0), 48);
        x.writeGroups();
        Check.due("a dot", x.textByte(0), 46);
        Check.dueThrows("behind a shorter text", Check.INDEX, () -> x.textByte(1));
    }

    private static void wrongInputs() {
        PupilPairs x = ring(3);
        Check.dueThrows("before the first text", Check.INDEX, () -> x.textByte(0));
        x.writePairs();
        Check.dueThrows("textByte(-1)", Check.INDEX, () -> x.textByte(-1));
        Check.dueThrows("textByte(max)", Check.INDEX, () -> x.textByte(Integer.MAX_VALUE));
        Check.dueThrows("writeWay(-1)", Check.INDEX, () -> x.writeWay(-1));
        PupilPairs y = new PupilPairs();
        Check.dueThrows("writePairs", Check.STATE, y::writePairs);
        Check.dueThrows("writeGroups", Check.STATE, y::writeGroups);
        Check.dueThrows("writeWay", Check.STATE, () -> y.writeWay(-1));
    }
}

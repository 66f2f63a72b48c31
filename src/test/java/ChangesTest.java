/** Promises 52 to 65, and section 7. */
public final class ChangesTest {
    private static final String TEXT = Situations.SMALL;

    public static void main(String[] args) {
        seek();
        seekAgain();
        stepAndRun();
        fill();
        fillByRisingNumbers();
        pair();
        part();
        flip();
        flipOfOthers();
        befriend();
        setKind();
        setRule();
        endsSearch();
        undo();
        eightAndNine();
        undoBringsBackAll();
        undoBringsBackSearch();
        saveAndRestore();
        noText();
        Check.finish();
    }

    private static void seek() {
        PupilPairs x = Check.loaded("class 5 1;kind 0;friend 0 1 2 3;friend 1 2;pair 0 3");
        Check.dueThrows("a pupil with a mate", Check.ARGUMENT, () -> x.seek(3));
        Check.dueThrows("seek(5)", Check.INDEX, () -> x.seek(5));
        Check.dueThrows("seek(-1)", Check.INDEX, () -> x.seek(-1));
        Check.due("no change yet", x.undoable() + " " + x.search(0), "0 0");
        Check.due("the friends that RULE allows", x.seek(1), 1);
        Check.due("no friends", x.seek(4), 0);
        Check.due("the new search", x.search(0) + " " + x.search(1), "1 4");
        Check.due("two changes", x.undoable(), 2);
        x.undo();
        Check.due("the search before", x.search(1), 1);
    }

    private static void seekAgain() {
        PupilPairs x = Check.loaded(TEXT);
        x.seek(0);
        x.step();
        x.step();
        Check.due("from the same pupil", x.seek(0), 2);
        Check.due("it begins anew", x.search(0) + " " + x.search(2) + " " + x.search(3) + " " + Check.groups(x),
            "1 0 0 0o");
        x.run();
        Check.dueThrows("ROOT has a mate now", Check.ARGUMENT, () -> x.seek(0));
        Check.due("the search that has found is still told", x.search(0), 2);
        Check.due("one alone", Check.loaded("class 1 1").seek(0), 0);
        Check.due("14 friends", Check.loaded(Situations.ALL_FRIENDS).seek(13), 13);
    }

    private static void stepAndRun() {
        PupilPairs x = Check.loaded(TEXT);
        Check.dueThrows("step of no search", Check.ARGUMENT, x::step);
        Check.dueThrows("run of no search", Check.ARGUMENT, x::run);
        x.seek(0);
        int[] due = {1, 2, 5, 0, 0, 3};
        for (int i = 0; i < due.length; i++) {
            Check.due("step " + i, x.step(), due[i]);
        }
        Check.dueThrows("step of an ended search", Check.ARGUMENT, x::step);
        Check.dueThrows("run of an ended search", Check.ARGUMENT, x::run);
        Check.due("changes", x.undoable(), 7);
        x.undo();
        x.undo();
        Check.due("the last two steps", x.run(), 2);
        Check.due("all steps", x.search(2), 6);
        Check.due("one pair more", x.count(7) + " " + Check.pairs(x), "1 0-1 2-3");
        x.undo();
        Check.due("pairs before", x.count(7) + " " + Check.pairs(x), "0 1-2");
        x.seek(4);
        Check.due("run", x.run() + " " + x.search(0), "1 2");
    }

    private static void fill() {
        PupilPairs x = Check.loaded(TEXT);
        x.seek(3);
        Check.due("fill", x.fill(), 2);
        Check.due("pairs", Check.pairs(x), "0-1 2-3");
        Check.due("sums", x.count(7) + " " + x.count(8) + " " + x.count(9) + " " + x.count(10), "1 1 2 0");
        Check.due("no search", x.search(0), 0);
        Check.due("fill of what is full", x.fill(), 2);
        Check.due("it is a change", x.undoable(), 3);
        Check.due("one more failed", x.count(8), 2);
        Check.due("a pupil alone", Check.loaded("class 1 0").fill(), 0);
    }

    private static void fillByRisingNumbers() {
        PupilPairs x = Check.loaded("class 6 0;friend 0 3;friend 1 3;friend 2 3 4;friend 4 5");
        Check.due("fill", x.fill() + " " + Check.pairs(x), "2 0-3 2-4");
        Check.due("1 and 5 failed", x.count(7) + " " + x.count(8), "2 2");
        PupilPairs ring = Check.loaded("class 4 0;ring 0 1 2 3;pair 3 0");
        Check.due("from those that are free alone", ring.fill() + " " + Check.pairs(ring), "2 0-3 1-2");
        Check.due("one search", ring.count(7) + " " + ring.count(8), "1 0");
        PupilPairs all = Check.loaded(Situations.ALL_FRIENDS);
        Check.due("14 friends", all.fill() + " " + all.fill() + " " + all.count(7) + " " + all.count(8), "7 7 7 0");
        PupilPairs none = Check.loaded("class 14 0");
        Check.due("no friends", none.fill() + " " + none.count(7) + " " + none.count(8), "0 0 14");
    }

    private static void pair() {
        PupilPairs x = Check.loaded(TEXT);
        x.seek(3);
        Check.due("pair", x.pair(4, 3), 2);
        Check.due("mates", x.pupil(3, 3) + " " + x.pupil(4, 3), "4 3");
        Check.due("the search ends", x.search(0), 0);
        Check.due("by no search", x.count(7), 0);
        Check.dueThrows("no friends", Check.ARGUMENT, () -> x.pair(0, 3));
        Check.dueThrows("the same", Check.ARGUMENT, () -> x.pair(0, 0));
        Check.dueThrows("a mate", Check.ARGUMENT, () -> x.pair(0, 1));
        Check.dueThrows("pair(0, 5)", Check.INDEX, () -> x.pair(0, 5));
        Check.dueThrows("pair(-1, 0)", Check.INDEX, () -> x.pair(-1, 0));
        Check.due("changes", x.undoable(), 2);
        PupilPairs y = Check.loaded("class 2 1;friend 0 1");
        Check.dueThrows("RULE", Check.ARGUMENT, () -> y.pair(0, 1));
    }

    private static void part() {
        PupilPairs x = Check.loaded(TEXT);
        x.seek(0);
        Check.dueThrows("a free pupil", Check.ARGUMENT, () -> x.part(3));
        Check.dueThrows("part(5)", Check.INDEX, () -> x.part(5));
        Check.dueThrows("part(-1)", Check.INDEX, () -> x.part(-1));
        Check.due("the search goes on", x.search(0), 1);
        Check.due("the mate before", x.part(2), 1);
        Check.due("both are free", x.pupil(1, 3) + x.pupil(2, 3), -2);
        Check.due("a pair is lost", x.count(10) + " " + x.count(3), "1 0");
        Check.due("the search ends", x.search(0), 0);
    }

    private static void flip() {
        PupilPairs x = Check.loaded(TEXT);
        Check.dueThrows("no search", Check.ARGUMENT, () -> x.flip(0));
        x.fill();
        x.seek(4);
        x.run();
        Check.due("pairs", Check.pairs(x), "0-1 2-3");
        Check.due("the way", Check.way(x, 1), "1>0>2>3>4");
        Check.dueThrows("an inner pupil", Check.ARGUMENT, () -> x.flip(3));
        Check.dueThrows("flip(5)", Check.INDEX, () -> x.flip(5));
        Check.due("the mate of ROOT", x.flip(1), 3);
        Check.due("pairs behind", Check.pairs(x), "0-2 3-4");
        Check.due("p is free", x.pupil(1, 3), -1);
        Check.due("none is lost, the search ends", x.count(10) + x.search(0), 0);
        x.undo();
        Check.due("ROOT", x.flip(4), -1);
        Check.due("nothing is different", Check.pairs(x), "0-1 2-3");
        x.undo();
        x.undo();
        Check.due("a search that goes on", x.search(0) + " " + x.flip(4), "1 -1");
        PupilPairs y = Check.loaded(TEXT);
        y.seek(0);
        y.run();
        Check.dueThrows("a search that has found", Check.ARGUMENT, () -> y.flip(0));
    }

    /** A pupil that is out has no way; those of a search that goes on are turned, too. */
    private static void flipOfOthers() {
        PupilPairs x = Check.loaded(Situations.BLOSSOM);
        x.seek(0);
        for (int i = 0; i < 8; i++) {
            x.step();
        }
        Check.dueThrows("an out pupil", Check.ARGUMENT, () -> x.flip(8));
        Check.dueThrows("an inner pupil", Check.ARGUMENT, () -> x.flip(1));
        Check.due("the search goes on", x.search(0) + " " + x.search(2), "1 8");
        Check.due("through a BRIDGE", Check.way(x, 3) + " " + x.flip(3), "3>4>6>5>2>1>0 1");
        Check.due("pairs behind", Check.pairs(x) + " " + x.pupil(3, 3), "0-1 2-5 4-6 7-8 -1");
        Check.due("as many pairs as before", x.count(3) + " " + x.count(7) + " " + x.count(10), "4 0 0");
        Check.dueThrows("no search any more", Check.ARGUMENT, () -> x.flip(3));
        PupilPairs alone = Check.loaded("class 1 0");
        alone.seek(0);
        Check.due("one alone", alone.flip(0) + " " + alone.search(0) + " " + alone.undoable(), "-1 0 2");
    }

    private static void befriend() {
        PupilPairs x = Check.loaded(TEXT);
        Check.due("new friends", x.befriend(0, 4, true), 6);
        Check.due("both ways", x.friends(4, 0) && x.friends(0, 4), true);
        Check.due("again", x.befriend(4, 0, true), 6);
        Check.due("no friends any more", x.befriend(4, 0, false), 5);
        Check.due("none lost", x.count(10), 0);
        Check.due("paired friends stay a pair", x.befriend(1, 2, true) + " " + Check.pairs(x), "5 1-2");
        Check.due("a pair", x.befriend(2, 1, false), 4);
        Check.due("it is parted", Check.pairs(x) + " " + x.count(10), ". 1");
        Check.dueThrows("the same", Check.ARGUMENT, () -> x.befriend(2, 2, true));
        Check.dueThrows("befriend(5, 5)", Check.INDEX, () -> x.befriend(5, 5, true));
        Check.dueThrows("befriend(0, -1)", Check.INDEX, () -> x.befriend(0, -1, false));
        Check.due("changes", x.undoable(), 5);
    }

    private static void setKind() {
        PupilPairs x = Check.loaded("class 4 2;ring 0 1 2 3;pair 0 1;pair 2 3");
        Check.due("the kind before", x.setKind(0, 1), 0);
        Check.due("parted", Check.pairs(x) + " " + x.count(10), "2-3 1");
        Check.due("the same kind", x.setKind(0, 1), 1);
        Check.due("it is a change", x.undoable(), 2);
        Check.due("back", x.setKind(0, 0), 1);
        Check.due("not paired by this", Check.pairs(x), "2-3");
        Check.dueThrows("kind 2", Check.ARGUMENT, () -> x.setKind(0, 2));
        Check.dueThrows("kind -1", Check.ARGUMENT, () -> x.setKind(0, -1));
        Check.dueThrows("setKind(4, 2)", Check.INDEX, () -> x.setKind(4, 2));
        PupilPairs y = Check.loaded("class 2 0;friend 0 1;pair 0 1");
        y.setKind(1, 1);
        Check.due("RULE 0 allows it", Check.pairs(y), "0-1");
    }

    private static void setRule() {
        PupilPairs x = Check.loaded("class 6 0;kind 0;friend 0 1;friend 2 3;friend 4 5;pair 0 1;pair 2 3;pair 4 5");
        Check.due("RULE before", x.setRule(1), 0);
        Check.due("parted", Check.pairs(x) + " " + x.count(10) + " " + x.count(5), "0-1 2 1");
        Check.due("RULE before", x.setRule(2), 1);
        Check.due("parted", Check.pairs(x) + " " + x.count(10), ". 3");
        Check.due("the same RULE", x.setRule(2), 2);
        Check.due("changes", x.undoable(), 3);
        Check.dueThrows("setRule(3)", Check.ARGUMENT, () -> x.setRule(3));
        Check.dueThrows("setRule(-1)", Check.ARGUMENT, () -> x.setRule(-1));
    }

    private static void endsSearch() {
        for (int change = 0; change < 7; change++) {
            PupilPairs x = Check.loaded(TEXT);
            x.seek(0);
            x.step();
            if (change == 0) {
                x.fill();
            } else if (change == 1) {
                x.pair(3, 4);
            } else if (change == 2) {
                x.part(1);
            } else if (change == 3) {
                x.flip(2);
            } else if (change == 4) {
                x.befriend(0, 1, true);
            } else if (change == 5) {
                x.setKind(4, 0);
            } else {
                x.setRule(0);
            }
            Check.due("the search behind change " + change, x.search(0) + x.label(0), -1);
            x.undo();
            Check.due("the search behind undo of change " + change, x.search(0) + " " + x.label(1), "1 2");
        }
    }

    private static void undo() {
        PupilPairs x = Check.loaded(TEXT);
        for (int i = 0; i < 12; i++) {
            x.setKind(i % 5, 1 - i / 5 % 2);
            Check.due("undoable", x.undoable(), Math.min(8, i + 1));
        }
        for (int i = 11; i > 3; i--) {
            Check.due("undo", x.undo(), i - 4);
            Check.due("kind", x.pupil(i % 5, 0), i / 5 % 2);
        }
        Check.dueThrows("the ninth", Check.STATE, x::undo);
        x.seek(0);
        Check.due("a change behind undo", x.undoable(), 1);
        Check.due("undone", x.undo(), 0);
        Check.dueThrows("none is left", Check.STATE, x::undo);
    }

    /** Of eight changes each can be undone, of nine all but the first. */
    private static void eightAndNine() {
        for (int changes = 7; changes <= 10; changes++) {
            PupilPairs x = Check.loaded("class 14 0");
            for (int i = 0; i < changes; i++) {
                x.setKind(i, 1);
            }
            int kept = Math.min(changes, 8);
            Check.due("undoable behind " + changes, x.undoable(), kept);
            for (int left = kept - 1; left >= 0; left--) {
                Check.due("undo", x.undo() + " " + x.undoable(), left + " " + left);
            }
            Check.due("what is left of " + changes, x.count(6), changes - kept);
            Check.dueThrows("one more", Check.STATE, x::undo);
            Check.due("kinds", x.pupil(0, 0) + " " + x.pupil(1, 0), (changes > 8 ? 1 : 0) + " " + (changes > 9 ? 1 : 0));
        }
        PupilPairs y = Check.loaded("class 2 0");
        Check.dueThrows("no change yet", Check.STATE, y::undo);
        y.save(0);
        y.setKind(0, 1);
        y.restore(0);
        Check.dueThrows("none since restore", Check.STATE, y::undo);
        for (int i = 0; i < 9; i++) {
            y.setKind(i % 2, 1 - i / 2 % 2);
        }
        Check.due("8 since restore", y.undoable(), 8);
    }

    private static void undoBringsBackAll() {
        PupilPairs x = Check.loaded(TEXT);
        x.setRule(1);
        x.befriend(1, 4, true);
        x.setKind(4, 1);
        x.fill();
        Check.due("before", x.count(5) + " " + x.count(1) + " " + x.count(6) + " " + x.count(10), "1 6 1 1");
        Check.append(x, "class 3 0");
        for (int i = 0; i < 4; i++) {
            x.undo();
        }
        Check.due("behind", x.count(5) + " " + x.count(1) + " " + x.count(6) + " " + x.count(10), "0 5 0 0");
        Check.due("sums", x.count(7) + x.count(8) + x.count(9), 0);
        Check.due("pairs", Check.pairs(x), "1-2");
        Check.due("the input buffer stays", x.buffered(), 20);
    }

    /** All that is told of the search, and the sums. */
    private static String toldOfSearch(PupilPairs x) {
        StringBuilder told = new StringBuilder();
        for (int what = 0; what <= 10; what++) {
            told.append(x.count(what)).append(what <= 7 ? "/" + x.search(what) : "").append(' ');
        }
        for (int p = 0; p < x.count(0); p++) {
            told.append(x.label(p)).append(' ').append(x.base(p)).append(' ').append(x.link(p)).append(' ');
            told.append(x.bridge(p, false)).append(' ').append(x.bridge(p, true)).append(' ');
            told.append(Check.way(x, p)).append(' ');
        }
        return told.append(Check.groups(x)).append(Check.queue(x)).append(' ').append(x.next()).toString();
    }

    private static void undoBringsBackSearch() {
        PupilPairs x = Check.loaded("class 11 0;friend 0 1;friend 2 1 3 5;friend 4 3 6;friend 6 5 7;friend 8 7 9"
            + ";friend 10 8;pair 1 2;pair 3 4;pair 5 6;pair 7 8");
        x.seek(0);
        for (int i = 0; i < 12; i++) {
            x.step();
        }
        String before = toldOfSearch(x);
        Check.due("there is a blossom, and a queue", x.blossoms() + " " + Check.queue(x), "1 6 3 5 8");
        x.save(1);
        x.seek(10);
        x.run();
        x.fill();
        Check.due("another search", toldOfSearch(x).equals(before), false);
        x.undo();
        Check.due("the search from 10", x.search(1) + " " + x.search(0), "10 2");
        x.undo();
        x.undo();
        Check.due("behind undo", toldOfSearch(x), before);
        x.seek(9);
        x.run();
        x.restore(1);
        Check.due("behind restore", toldOfSearch(x), before);
    }

    private static void saveAndRestore() {
        PupilPairs x = Check.loaded(TEXT);
        x.seek(0);
        x.step();
        Check.due("save", x.save(1), 1);
        Check.due("save is no change", x.undoable(), 2);
        x.run();
        Check.due("save", x.save(0), 2);
        x.setRule(1);
        Check.dueThrows("restore(2)", Check.INDEX, () -> x.restore(2));
        Check.dueThrows("restore(-1)", Check.INDEX, () -> x.restore(-1));
        Check.dueThrows("save(2)", Check.INDEX, () -> x.save(2));
        Check.dueThrows("save(-1)", Check.INDEX, () -> x.save(-1));
        Check.due("restore", x.restore(1), 1);
        Check.due("the search", x.search(0) + " " + x.search(2) + " " + x.label(1), "1 1 2");
        Check.dueThrows("nothing to undo", Check.STATE, x::undo);
        x.fill();
        Check.due("undo behind restore", x.undo(), 0);
        Check.due("the other slot", x.restore(0) + " " + x.count(7) + " " + x.search(0), "2 1 2");
        Check.due("it stays saved", x.restore(1) + " " + x.restore(1), "1 1");
        x.part(1);
        Check.due("in place of what was saved", x.save(1) + " " + x.restore(1), "0 0");
        PupilPairs y = Check.loaded(TEXT);
        y.save(0);
        Check.dueThrows("nothing saved there", Check.STATE, () -> y.restore(1));
    }

    private static void noText() {
        PupilPairs x = new PupilPairs();
        Check.dueThrows("seek", Check.STATE, () -> x.seek(-1));
        Check.dueThrows("step", Check.STATE, x::step);
        Check.dueThrows("run", Check.STATE, x::run);
        Check.dueThrows("fill", Check.STATE, x::fill);
        Check.dueThrows("pair", Check.STATE, () -> x.pair(0, 0));
        Check.dueThrows("part", Check.STATE, () -> x.part(0));
        Check.dueThrows("flip", Check.STATE, () -> x.flip(0));
        Check.dueThrows("befriend", Check.STATE, () -> x.befriend(0, 0, true));
        Check.dueThrows("setKind", Check.STATE, () -> x.setKind(0, 3));
        Check.dueThrows("setRule", Check.STATE, () -> x.setRule(3));
        Check.dueThrows("save", Check.STATE, () -> x.save(0));
        Check.due("undoable", x.undoable(), 0);
    }
}

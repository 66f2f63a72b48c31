/** Promises 12 to 22, and sections 2 and 3: a search with a blossom, told step by step as it is made by hand. */
public final class SearchTest {
    private static final String TEXT = Situations.BLOSSOM;

    public static void main(String[] args) {
        noSearch();
        wrongInputs();
        begin();
        firstTrees();
        blossom();
        waysOfBlossom();
        found();
        failed();
        nextAtTheEnd();
        blossomInBlossom();
        blossomOfLongRow();
        blossomOfRoot();
        anotherSearch();
        oneAlone();
        rules();
        Check.finish();
    }

    private static PupilPairs behindSteps(int steps) {
        PupilPairs x = Check.loaded(TEXT);
        x.seek(0);
        for (int i = 0; i < steps; i++) {
            x.step();
        }
        return x;
    }

    private static String numbers(PupilPairs x) {
        StringBuilder row = new StringBuilder();
        for (int what = 0; what <= 7; what++) {
            row.append(what == 0 ? "" : " ").append(x.search(what));
        }
        return row.toString();
    }

    private static void noSearch() {
        PupilPairs x = Check.loaded(TEXT);
        Check.due("no search", numbers(x), "0 -1 -1 -1 -1 -1 -1 -1");
        Check.due("label", x.label(0), -1);
        Check.due("group", x.group(0), 0);
        Check.due("base", x.base(0), -1);
        Check.due("link", x.link(0), -1);
        Check.due("bridge", x.bridge(0, true) + x.bridge(0, false), -2);
        Check.due("queueAt", x.queueAt(0), -1);
        Check.due("next", x.next(), -1);
        Check.due("wayLength", x.wayLength(0), 0);
        Check.due("wayAt", x.wayAt(0, 0), -1);
        Check.due("blossoms", x.blossoms(), 0);
    }

    private static void wrongInputs() {
        PupilPairs x = behindSteps(3);
        Check.dueThrows("search(8)", Check.ARGUMENT, () -> x.search(8));
        Check.dueThrows("search(-1)", Check.ARGUMENT, () -> x.search(-1));
        for (int p : new int[] {-1, 10, Integer.MAX_VALUE, Integer.MIN_VALUE}) {
            Check.dueThrows("label", Check.INDEX, () -> x.label(p));
            Check.dueThrows("group", Check.INDEX, () -> x.group(p));
            Check.dueThrows("base", Check.INDEX, () -> x.base(p));
            Check.dueThrows("link", Check.INDEX, () -> x.link(p));
            Check.dueThrows("bridge", Check.INDEX, () -> x.bridge(p, true));
            Check.dueThrows("wayLength", Check.INDEX, () -> x.wayLength(p));
            Check.dueThrows("wayAt", Check.INDEX, () -> x.wayAt(p, 0));
            Check.due("queueAt(" + p + ")", x.queueAt(p), -1);
            Check.due("wayAt(0, " + p + ")", x.wayAt(0, p), -1);
        }
        PupilPairs y = new PupilPairs();
        Check.dueThrows("search", Check.STATE, () -> y.search(9));
        Check.dueThrows("label", Check.STATE, () -> y.label(0));
        Check.dueThrows("group", Check.STATE, () -> y.group(0));
        Check.dueThrows("base", Check.STATE, () -> y.base(0));
        Check.dueThrows("link", Check.STATE, () -> y.link(0));
        Check.dueThrows("bridge", Check.STATE, () -> y.bridge(0, false));
        Check.dueThrows("queueAt", Check.STATE, () -> y.queueAt(0));
        Check.dueThrows("next", Check.STATE, y::next);
        Check.dueThrows("wayLength", Check.STATE, () -> y.wayLength(0));
        Check.dueThrows("wayAt", Check.STATE, () -> y.wayAt(0, 0));
        Check.dueThrows("blossoms", Check.STATE, y::blossoms);
    }

    private static void begin() {
        PupilPairs x = behindSteps(0);
        Check.due("at first", numbers(x), "1 0 0 0 1 0 1 10");
        Check.due("ROOT is outer", x.label(0), 1);
        Check.due("others are out", x.label(1) + x.label(9), 0);
        Check.due("each is a group", x.group(3), 8);
        Check.due("of which it is BASE", x.base(3), 3);
        Check.due("the way of ROOT", Check.way(x, 0), "0");
        Check.due("out pupils have no way", Check.way(x, 1), ".");
        Check.due("next", x.next(), 1);
    }

    private static void firstTrees() {
        PupilPairs x = behindSteps(0);
        Check.due("step 1", x.step(), 1);
        Check.due("1 is inner, 2 outer", x.label(1) + " " + x.label(2), "2 1");
        Check.due("LINK of 1", x.link(1), 0);
        Check.due("LINK of 2", x.link(2), -1);
        Check.due("the queue", Check.queue(x), "0 2");
        Check.due("none left", x.next(), 99);
        Check.due("step 2", x.step(), 5);
        Check.due("the queue", Check.queue(x), "2");
        Check.due("asked for an inner one", x.next(), 201);
        Check.due("step 3", x.step(), 0);
        Check.due("step 4", x.step(), 1);
        Check.due("step 5", x.step(), 1);
        Check.due("step 6", x.step(), 5);
        Check.due("step 7", x.step(), 0);
        Check.due("behind 7 steps", numbers(x), "1 0 7 0 4 3 2 10");
        Check.due("groups", Check.groups(x), "0o 1i 2o 3i 4o 5i 6o");
        Check.due("the way of 6", Check.way(x, 6), "6>5>2>1>0");
        Check.due("an inner pupil has no way", x.wayLength(5) + x.wayAt(5, 0), -1);
        Check.due("no blossoms", x.blossoms(), 0);
        Check.due("next", x.next(), 406);
    }

    private static void blossom() {
        PupilPairs x = behindSteps(7);
        Check.due("step 8", x.step(), 2);
        Check.due("behind the blossom", numbers(x), "1 0 8 1 6 1 4 6");
        Check.due("its group", x.group(5), 4 + 8 + 16 + 32 + 64);
        Check.due("its BASE", x.base(6), 2);
        Check.due("other groups", x.group(1) + x.base(1), 3);
        Check.due("3 and 5 are outer", x.label(3) + x.label(5), 2);
        Check.due("the queue", Check.queue(x), "4 6 3 5");
        Check.due("BRIDGE of 3", x.bridge(3, false) + " " + x.bridge(3, true), "4 6");
        Check.due("BRIDGE of 5", x.bridge(5, false) + " " + x.bridge(5, true), "6 4");
        Check.due("no BRIDGE", x.bridge(4, false) + x.bridge(4, true) + x.bridge(2, true), -3);
        Check.due("the LINK stays", x.link(3), 2);
        Check.due("blossoms", x.blossoms(), 1);
        Check.due("made so far", x.count(9), 1);
        Check.due("groups", Check.groups(x), "0o 1i 2+3+4+5+6o");
    }

    private static void waysOfBlossom() {
        PupilPairs x = behindSteps(8);
        Check.due("the way of 3", Check.way(x, 3), "3>4>6>5>2>1>0");
        Check.due("the way of 5", Check.way(x, 5), "5>6>4>3>2>1>0");
        Check.due("its length", x.wayLength(5), 7);
        Check.due("wayAt(5, 0)", x.wayAt(5, 0), 5);
        Check.due("wayAt(5, 6)", x.wayAt(5, 6), 0);
        Check.due("wayAt(5, 7)", x.wayAt(5, 7), -1);
        Check.due("the way of 4", Check.way(x, 4), "4>3>2>1>0");
    }

    private static void found() {
        PupilPairs x = behindSteps(8);
        int[] due = {5, 0, 0, 1, 5, 0, 0, 5, 0, 0, 5, 0};
        for (int i = 0; i < due.length; i++) {
            Check.due("step " + (9 + i), x.step(), due[i]);
        }
        Check.due("the way of 8", Check.way(x, 8), "8>7>6>5>2>1>0");
        Check.due("next", x.next(), 809);
        Check.due("step 21", x.step(), 3);
        Check.due("it is still told", numbers(x), "2 0 21 1 7 2 1 6");
        Check.due("pairs", Check.pairs(x), "0-1 2-5 3-4 6-7 8-9");
        Check.due("pairs by searches", x.count(7), 1);
        Check.due("no ways", x.wayLength(8) + x.wayAt(8, 0), -1);
        Check.due("writeWay", Check.way(x, 8), ".");
        Check.due("next of none", x.next(), -1);
        Check.due("the queue", Check.queue(x), "8");
        Check.due("w is out", x.label(9), 0);
        Check.due("groups", Check.groups(x), "0o 1i 2+3+4+5+6o 7i 8o");
        Check.due("LINK", x.link(7), 6);
        Check.dueThrows("step", Check.ARGUMENT, x::step);
        x.save(0);
        Check.due("told behind save", x.search(0), 2);
        x.setRule(0);
        Check.due("told no more behind a change", x.search(0), 0);
        x.undo();
        Check.due("told behind undo", numbers(x), "2 0 21 1 7 2 1 6");
    }

    private static void failed() {
        PupilPairs x = Check.loaded("class 4 0;friend 1 0 2 3;pair 1 2");
        x.seek(0);
        Check.due("steps", x.run(), 4);
        Check.due("failed", numbers(x), "3 0 4 0 2 1 0 4");
        Check.due("ways are told", Check.way(x, 2), "2>1>0");
        Check.due("the queue is empty", Check.queue(x), "");
        Check.due("failed so far", x.count(8), 1);
        PupilPairs alone = Check.loaded("class 1 0");
        alone.seek(0);
        Check.due("next of one alone", alone.next(), 99);
        Check.due("step of one alone", alone.step(), 4);
    }

    /** ROOT 0; the blossom 0 1 2 is shrunken into another one, with 3 to 6. */
    private static void blossomInBlossom() {
        PupilPairs x = Check.loaded("class 7 0;ring 0 1 2;friend 1 3;friend 3 4;friend 4 5;friend 5 6;friend 6 2"
            + ";pair 1 2;pair 3 4;pair 5 6");
        x.seek(0);
        int[] due = {1, 2, 5, 0, 0, 1, 5, 0, 0, 1, 5};
        for (int i = 0; i < due.length; i++) {
            Check.due("step " + (i + 1), x.step(), due[i]);
        }
        Check.due("a blossom of three", x.blossoms() + " " + x.count(9) + " " + Check.groups(x), "1 1 0+1+2o 3i 4o 5o 6i");
        Check.due("step 12", x.step(), 2);
        Check.due("both blossoms were made", x.search(3) + " " + x.count(9), "2 2");
        Check.due("the queue", Check.queue(x), "5 4 3 6");
        String[] ways = {"0", "1>2>0", "2>1>0", "3>4>5>6>2>1>0", "4>3>1>2>0", "5>6>2>1>0", "6>5>4>3>1>2>0"};
        for (int p = 0; p < 7; p++) {
            Check.due("the way of " + p, Check.way(x, p), ways[p]);
        }
        Check.due("the BRIDGEs of the second", x.bridge(6, false) + " " + x.bridge(6, true) + " " + x.bridge(3, false)
            + " " + x.bridge(3, true), "5 4 4 5");
        Check.due("the BRIDGE of the first stays", x.bridge(1, false) + " " + x.bridge(1, true), "2 0");
        Check.due("steps up to the end", x.run() + " " + x.search(0) + " " + x.search(2), "11 3 23");
        Check.due("both blossoms are counted once", x.count(9), 2);
        Check.due("two blossoms", x.search(3), 2);
        Check.due("one of them is left", x.blossoms(), 1);
        Check.due("all are in it", x.group(4), 127);
        Check.due("its BASE", x.base(4), 0);
        for (int p = 0; p < 7; p++) {
            Check.due("outer " + p, x.label(p), 1);
            dueIsWay(x, p);
        }
    }

    /** A way ends at ROOT, has friends beside each other, and every second of its steps is a pair. */
    private static void dueIsWay(PupilPairs x, int p) {
        int length = x.wayLength(p);
        Check.due("length of the way of " + p + " is odd", length % 2, 1);
        Check.due("begin of the way", x.wayAt(p, 0), p);
        Check.due("end of the way", x.wayAt(p, length - 1), 0);
        for (int i = 0; i + 1 < length; i++) {
            int a = x.wayAt(p, i);
            int b = x.wayAt(p, i + 1);
            Check.due("friends on the way", x.friends(a, b), true);
            Check.due("a pair on the way", x.pupil(a, 3) == b, i % 2 == 0);
        }
    }

    /** ROOT 5; the row of 0 has two groups below the one of 3, where it meets the row of 7. */
    private static void blossomOfLongRow() {
        PupilPairs x = Check.loaded("class 9 0;friend 5 4;friend 3 4 1 2;friend 8 1 6;friend 7 2 0;friend 0 6;pair 4 3"
            + ";pair 1 8;pair 2 7;pair 6 0");
        x.seek(5);
        int[] due = {1, 5, 1, 1, 0, 5, 0, 1, 5, 2};
        for (int i = 0; i < due.length; i++) {
            Check.due("step " + (i + 1), x.step(), due[i]);
        }
        Check.due("all groups of both rows, up to that of 3", Check.groups(x), "0+1+2+3+6+7+8o 4i 5o");
        Check.due("BASE", x.base(0) + " " + x.base(8) + " " + x.base(3), "3 3 3");
        Check.due("by rising numbers", Check.queue(x), "7 0 1 2 6");
        Check.due("near ends", x.bridge(2, false) + " " + x.bridge(1, false) + " " + x.bridge(6, false), "7 0 0");
        Check.due("far ends", x.bridge(2, true) + " " + x.bridge(1, true) + " " + x.bridge(6, true), "0 7 7");
        Check.due("outer before, no BRIDGE", x.bridge(0, false) + " " + x.bridge(8, true) + " " + x.bridge(3, true),
            "-1 -1 -1");
        Check.due("the way of 1", Check.way(x, 1), "1>8>6>0>7>2>3>4>5");
        Check.due("the way of 2", Check.way(x, 2), "2>7>0>6>8>1>3>4>5");
        Check.due("the way of 6", Check.way(x, 6), "6>0>7>2>3>4>5");
        Check.due("wayAt, the last", x.wayAt(1, 8) + " " + x.wayAt(1, 9), "5 -1");
        Check.due("it fails", x.run() + " " + x.search(0), "14 3");
        Check.due("the ways stay", Check.way(x, 2) + " " + x.wayLength(4), "2>7>0>6>8>1>3>4>5 0");
    }

    /** ROOT 4; the rows of 0 and 2 meet in ROOT's group, and 0 is no base of both. */
    private static void blossomOfRoot() {
        PupilPairs x = Check.loaded("class 5 0;friend 4 1 3;friend 0 1 2;friend 2 3;pair 0 1;pair 2 3");
        x.seek(4);
        int[] due = {1, 1, 5, 0, 2};
        for (int i = 0; i < due.length; i++) {
            Check.due("step " + (i + 1), x.step(), due[i]);
        }
        Check.due("one group", Check.groups(x) + " " + x.group(0) + " " + x.base(0), "0+1+2+3+4o 31 4");
        Check.due("the queue", Check.queue(x), "0 2 1 3");
        Check.due("BRIDGEs", x.bridge(1, false) + " " + x.bridge(1, true) + " " + x.bridge(3, false) + " "
            + x.bridge(3, true), "0 2 2 0");
        Check.due("the ways", Check.way(x, 1) + " " + Check.way(x, 3), "1>0>2>3>4 3>2>0>1>4");
        Check.due("a group", x.search(7) + " " + x.blossoms(), "1 1");
    }

    /** A search begins anew: nothing of the search before is told in it, and the sums go on. */
    private static void anotherSearch() {
        PupilPairs x = behindSteps(9);
        x.seek(9);
        Check.due("at its begin", numbers(x), "1 9 0 0 1 0 1 10");
        Check.due("each pupil is a group", x.group(3) + " " + x.base(3) + " " + x.label(2), "8 3 0");
        Check.due("no LINK, no BRIDGE", x.link(1) + " " + x.bridge(3, false) + " " + x.bridge(3, true), "-1 -1 -1");
        Check.due("no ways but that of ROOT", Check.way(x, 2) + " " + Check.way(x, 9), ". 9");
        Check.due("the first friend", x.next(), 908);
        x.step();
        Check.due("behind a step", Check.groups(x) + " " + Check.queue(x), "7o 8i 9o 9 7");
        Check.due("the blossom of before is counted", x.count(9), 1);
        x.seek(0);
        x.run();
        Check.due("and the one of the next search", x.count(9) + " " + x.search(3), "2 1");
        PupilPairs twice = Check.loaded("class 4 0;ring 0 1 2;pair 1 2");
        for (int time = 1; time <= 2; time++) {
            twice.seek(0);
            Check.due("no blossom in it yet", twice.search(3), 0);
            twice.step();
            Check.due("the blossom", twice.step(), 2);
            Check.due("one in it, and all so far", twice.search(3) + " " + twice.count(9), "1 " + time);
            twice.run();
            Check.due("counted once", twice.search(3) + " " + twice.count(9), "1 " + time);
        }
    }

    private static void nextAtTheEnd() {
        PupilPairs x = Check.loaded("class 4 0;friend 1 0 2 3;pair 1 2");
        x.seek(0);
        x.run();
        Check.due("a search that has failed asks no more", x.next(), -1);
        Check.due("queueAt of an empty queue", x.queueAt(0), -1);
        Check.dueThrows("step", Check.ARGUMENT, x::step);
        Check.dueThrows("run", Check.ARGUMENT, x::run);
        PupilPairs y = Check.loaded(Situations.ALL_FRIENDS);
        y.seek(13);
        Check.due("by two numbers", y.next(), 1300);
        Check.due("all is one step", y.step() + " " + y.next() + " " + Check.pairs(y), "3 -1 0-13");
    }

    private static void oneAlone() {
        PupilPairs x = Check.loaded("class 1 2");
        Check.due("no friends", x.seek(0), 0);
        Check.due("at first", numbers(x), "1 0 0 0 1 0 1 1");
        Check.due("run", x.run(), 1);
        Check.due("failed", numbers(x), "3 0 1 0 1 0 0 1");
        Check.due("it is still told", Check.groups(x) + " " + Check.way(x, 0) + " " + x.base(0), "0o 0 0");
    }

    private static void rules() {
        PupilPairs x = Check.loaded("class 3 1;kind 0;ring 0 1 2;pair 0 1");
        x.seek(2);
        Check.due("RULE 1", x.run() + " " + x.search(0) + " " + x.search(3), "4 3 0");
        PupilPairs y = Check.loaded("class 3 0;kind 0;ring 0 1 2;pair 0 1");
        y.seek(2);
        Check.due("RULE 0", y.run() > 4 && y.search(3) == 1, true);
        PupilPairs z = Check.loaded("class 3 2;kind 0;ring 0 1 2");
        Check.due("RULE 2", z.seek(2), 1);
        Check.due("it asks for those of its kind", z.next(), 201);
    }
}

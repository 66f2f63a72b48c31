/** Promises 39 to 47. */
public final class WhatIfTest {
    private static final String STAR = "class 5 0;friend 0 1 2 3 4;pair 0 2";

    public static void main(String[] args) {
        without();
        mostIf();
        byRules();
        helps();
        trials();
        trialsAlone();
        oneAlone();
        all14();
        otherNumbers();
        nothingIsChanged();
        wrongInputs();
        Check.finish();
    }

    private static void without() {
        PupilPairs x = Check.loaded(STAR);
        Check.due("without the barrier", x.mostWithout(0), 0);
        Check.due("without a loose one", x.mostWithout(1), 1);
        Check.due("without one with a mate", x.mostWithout(2), 1);
    }

    private static void mostIf() {
        PupilPairs x = Check.loaded(STAR);
        Check.due("new friends", x.mostIf(1, 2), 2);
        Check.due("no friends any more", x.mostIf(0, 1), 1);
        Check.due("the same", x.mostIf(3, 3), 1);
        PupilPairs y = Check.loaded("class 4 0;friend 1 0 2;friend 2 3");
        Check.due("a friendship that is needed", y.mostIf(0, 1), 1);
        Check.due("one that is not", y.mostIf(1, 2), 2);
        Check.due("new, of no use", y.mostIf(0, 3), 2);
        PupilPairs z = Check.loaded("class 3 1;kind 0;friend 0 1;friend 1 2");
        Check.due("friends whom RULE does not allow", z.mostIf(1, 2), 1);
        Check.due("only one of the kind 1", z.mostIf(0, 2), 1);
        PupilPairs w = Check.loaded("class 2 1");
        Check.due("RULE as it is", w.mostIf(0, 1), 0);
        Check.due("of unlike kinds", Check.loaded("class 2 1;kind 1").mostIf(0, 1), 1);
        Check.due("of the same kind", Check.loaded("class 2 2;kind 1 0").mostIf(1, 0), 1);
    }

    private static void byRules() {
        PupilPairs x = Check.loaded("class 6 1;kind 0 1;friend 0 1 2;friend 1 3;friend 2 3;friend 4 5");
        Check.due("by 0", x.mostBy(0), 3);
        Check.due("by 1", x.mostBy(1), 2);
        Check.due("by 2", x.mostBy(2), 3);
        Check.due("most stays", x.most(), 2);
        Check.due("bestRule", x.bestRule(), 0);
        x.setRule(2);
        Check.due("bestRule is the smallest", x.bestRule(), 0);
        Check.due("bestRule of no friends", Check.loaded("class 3 2").bestRule(), 0);
    }

    private static void helps() {
        Check.due("helps of a star", Check.loaded(STAR).helps(), 6);
        Check.due("helps of none", Check.loaded("class 4 0").helps(), 6);
        Check.due("helps by RULE 1", Check.loaded("class 4 1;kind 0").helps(), 3);
        Check.due("helps by RULE 2", Check.loaded("class 4 2;kind 0").helps(), 3);
        Check.due("friends whom RULE does not allow", Check.loaded("class 2 1;friend 0 1").helps(), 0);
        Check.due("a perfect pairing", Check.loaded("class 4 0;friend 0 1;friend 2 3").helps(), 0);
    }

    private static void trials() {
        PupilPairs x = Check.loaded("class 5 0;ring 0 1 2;friend 3 2 4;pair 1 2");
        Check.due("it would find", x.wouldEnd(0) + " " + x.stepsTo(0), "2 6");
        Check.due("it has a mate", x.wouldEnd(1) + " " + x.stepsTo(2), "-1 -1");
        x.fill();
        Check.due("it would fail", x.wouldEnd(4) + " " + x.stepsTo(4), "3 12");
        x.seek(4);
        Check.due("as long as told", x.run(), 12);
        Check.due("behind a search", x.wouldEnd(4) + " " + x.stepsTo(4), "3 12");
    }

    /** Each of both asks by itself: none needs the other one before. */
    private static void trialsAlone() {
        PupilPairs x = Check.loaded("class 5 0;ring 0 1 2;friend 3 2 4;pair 1 2");
        Check.due("steps from 0", x.stepsTo(0), 6);
        Check.due("steps from 3", x.stepsTo(3), 2);
        Check.due("steps from 4", x.stepsTo(4), 1);
        Check.due("a mate", x.stepsTo(1), -1);
        Check.due("behind that", x.stepsTo(0), 6);
        x.seek(0);
        x.step();
        Check.due("while a search goes on", x.stepsTo(4) + " " + x.wouldEnd(0) + " " + x.stepsTo(0), "1 2 6");
        Check.due("that goes on", x.search(0) + " " + x.search(2), "1 1");
    }

    private static void oneAlone() {
        PupilPairs x = Check.loaded("class 1 0");
        Check.due("without it", x.mostWithout(0), 0);
        Check.due("a friend of itself", x.mostIf(0, 0), 0);
        Check.due("by any RULE", x.mostBy(0) + x.mostBy(1) + x.mostBy(2) + x.bestRule(), 0);
        Check.due("no two pupils", x.helps(), 0);
        Check.due("it would fail", x.wouldEnd(0) + " " + x.stepsTo(0), "3 1");
        Check.due("numbers", x.meanFriends() + " " + x.pairedShare(), "0.0 0.0");
    }

    private static void all14() {
        PupilPairs x = Check.loaded(Situations.ALL_FRIENDS);
        Check.due("without one", x.mostWithout(0) + " " + x.mostWithout(13), "6 6");
        Check.due("two no friends any more", x.mostIf(0, 13) + " " + x.mostIf(13, 0) + " " + x.mostIf(13, 13), "7 7 7");
        Check.due("all are friends", x.helps(), 0);
        Check.due("it would find", x.wouldEnd(13) + " " + x.stepsTo(13), "2 1");
        Check.due("numbers", x.meanFriends() + " " + x.pairedShare(), "13.0 0.0");
        x.fill();
        Check.due("all are paired", x.pairedShare() + " " + x.wouldEnd(13), "1.0 -1");
        Check.due("by each RULE", x.mostBy(0) + " " + x.mostBy(1) + " " + x.mostBy(2), "7 0 7");
        Check.due("in turn", x.mostBy(1) + " " + x.most() + " " + x.pairings() + " " + x.bestRule(), "0 7 135135 0");
        Check.load(x, "class 14 0");
        Check.due("the class before is forgotten", x.most() + " " + x.pairings(), "0 1");
        PupilPairs none = Check.loaded("class 14 0");
        Check.due("each friendship helps", none.helps(), 91);
        PupilPairs most13 = Check.loaded(Situations.allFriends(13));
        Check.due("a share by float", most13.fill() + " " + most13.pairedShare(), "6 " + 12f / 13f);
    }

    private static void otherNumbers() {
        PupilPairs x = Check.loaded("class 3 1;kind 0;ring 0 1 2;pair 0 2");
        Check.due("meanFriends", x.meanFriends(), 4.0 / 3.0);
        Check.due("pairedShare", x.pairedShare(), 2f / 3f);
        PupilPairs y = Check.loaded("class 7 0");
        Check.due("none", y.meanFriends() + " " + y.pairedShare(), "0.0 0.0");
    }

    private static void nothingIsChanged() {
        PupilPairs x = Check.loaded(STAR);
        x.seek(1);
        x.step();
        int before = x.undoable();
        x.mostWithout(0);
        x.mostIf(1, 2);
        x.mostBy(2);
        x.bestRule();
        x.helps();
        x.wouldEnd(3);
        x.stepsTo(4);
        Check.due("changes", x.undoable(), before);
        Check.due("the search", x.search(0) + " " + x.search(1) + " " + x.search(2), "1 1 1");
        Check.due("sums", x.count(7) + x.count(8) + x.count(9), 0);
        Check.due("friendships", x.count(1) + " " + x.count(5) + " " + Check.pairs(x), "4 0 0-2");
    }

    private static void wrongInputs() {
        PupilPairs x = Check.loaded(STAR);
        for (int p : new int[] {-1, 5}) {
            Check.dueThrows("mostWithout", Check.INDEX, () -> x.mostWithout(p));
            Check.dueThrows("mostIf", Check.INDEX, () -> x.mostIf(p, p));
            Check.dueThrows("mostIf", Check.INDEX, () -> x.mostIf(0, p));
            Check.dueThrows("wouldEnd", Check.INDEX, () -> x.wouldEnd(p));
            Check.dueThrows("stepsTo", Check.INDEX, () -> x.stepsTo(p));
        }
        Check.dueThrows("mostBy(3)", Check.ARGUMENT, () -> x.mostBy(3));
        Check.dueThrows("mostBy(-1)", Check.ARGUMENT, () -> x.mostBy(-1));
        PupilPairs y = new PupilPairs();
        Check.dueThrows("mostWithout", Check.STATE, () -> y.mostWithout(0));
        Check.dueThrows("mostIf", Check.STATE, () -> y.mostIf(0, 0));
        Check.dueThrows("mostBy", Check.STATE, () -> y.mostBy(7));
        Check.dueThrows("bestRule", Check.STATE, y::bestRule);
        Check.dueThrows("helps", Check.STATE, y::helps);
        Check.dueThrows("wouldEnd", Check.STATE, () -> y.wouldEnd(0));
        Check.dueThrows("stepsTo", Check.STATE, () -> y.stepsTo(0));
        Check.dueThrows("meanFriends", Check.STATE, y::meanFriends);
        Check.dueThrows("pairedShare", Check.STATE, y::pairedShare);
    }
}

/** Promises 7 to 11. */
public final class PupilsTest {
    public static void main(String[] args) {
        counts();
        numbersOfPupils();
        friendsAndFriendAt();
        whyNot();
        smallestAndGreatest();
        Check.finish();
    }

    private static PupilPairs school() {
        return Check.loaded("class 6 1;kind 0 2 5;friend 0 1 2 3;friend 4 5 3;pair 0 3");
    }

    private static void counts() {
        PupilPairs x = school();
        int[] due = {6, 5, 3, 1, 4, 1, 3, 0, 0, 0, 0};
        for (int what = 0; what < due.length; what++) {
            Check.due("count(" + what + ")", x.count(what), due[what]);
        }
        Check.dueThrows("count(11)", Check.ARGUMENT, () -> x.count(11));
        Check.dueThrows("count(-1)", Check.ARGUMENT, () -> x.count(-1));
        x.fill();
        Check.due("pairs by searches", x.count(7), 1);
        Check.due("failed searches", x.count(8), 2);
        Check.due("blossoms", x.count(9), 0);
        PupilPairs y = Check.loaded("class 4 0;ring 0 1 2;pair 1 2");
        y.seek(0);
        y.run();
        Check.due("a blossom", y.count(9), 1);
        y.seek(0);
        y.run();
        Check.due("blossoms of all searches", y.count(9), 2);
        Check.due("failed of all searches", y.count(8), 2);
        y.part(1);
        Check.due("a pair that is lost", y.count(10), 1);
    }

    private static void smallestAndGreatest() {
        PupilPairs alone = Check.loaded("class 1 0;kind 0");
        int[] dueAlone = {1, 0, 0, 0, 1, 0, 1, 0, 0, 0, 0};
        // the k-th search makes a blossom with each of the k - 1 pairs before: 1 + 2 + .. + 6 of them
        PupilPairs all = Check.loaded(Situations.ALL_FRIENDS);
        all.fill();
        int[] dueOfAll = {14, 91, 91, 7, 0, 0, 0, 7, 0, 21, 0};
        for (int what = 0; what <= 10; what++) {
            Check.due("one alone, count(" + what + ")", alone.count(what), dueAlone[what]);
            Check.due("14 friends, count(" + what + ")", all.count(what), dueOfAll[what]);
        }
        Check.due("the greatest pupil", all.pupil(13, 1) + " " + all.pupil(13, 2) + " " + all.pupil(13, 3), "13 13 12");
        Check.due("one alone", alone.pupil(0, 0) + " " + alone.pupil(0, 1) + " " + alone.pupil(0, 3), "1 0 -1");
        Check.due("no friend of itself", alone.friends(0, 0) || all.friends(13, 13), false);
    }

    private static void numbersOfPupils() {
        PupilPairs x = school();
        int[] due = {1, 3, 2, 3};
        int[] dueOfFour = {0, 2, 1, -1};
        for (int what = 0; what < 4; what++) {
            Check.due("pupil(0, " + what + ")", x.pupil(0, what), due[what]);
            Check.due("pupil(4, " + what + ")", x.pupil(4, what), dueOfFour[what]);
        }
        Check.due("the mate's mate", x.pupil(3, 3), 0);
        Check.dueThrows("pupil(0, 4)", Check.ARGUMENT, () -> x.pupil(0, 4));
        Check.dueThrows("pupil(0, -1)", Check.ARGUMENT, () -> x.pupil(0, -1));
        Check.dueThrows("pupil(6, 4)", Check.INDEX, () -> x.pupil(6, 4));
        Check.dueThrows("pupil(-1, 0)", Check.INDEX, () -> x.pupil(-1, 0));
    }

    private static void friendsAndFriendAt() {
        PupilPairs x = school();
        Check.due("friends whatever RULE allows", x.friends(0, 2), true);
        Check.due("friends both ways", x.friends(2, 0), true);
        Check.due("no friends", x.friends(1, 2), false);
        Check.due("no friend of itself", x.friends(0, 0), false);
        Check.dueThrows("friends(6, 0)", Check.INDEX, () -> x.friends(6, 0));
        Check.dueThrows("friends(0, -1)", Check.INDEX, () -> x.friends(0, -1));
        Check.due("friendAt(0, 0)", x.friendAt(0, 0), 1);
        Check.due("friendAt passes whom RULE forbids", x.friendAt(0, 1), 3);
        Check.due("friendAt(0, 2)", x.friendAt(0, 2), -1);
        Check.due("friendAt(0, -1)", x.friendAt(0, -1), -1);
        Check.due("friendAt, most", x.friendAt(0, Integer.MAX_VALUE), -1);
        Check.dueThrows("friendAt(6, 0)", Check.INDEX, () -> x.friendAt(6, 0));
        Check.due("friendAt, least", x.friendAt(0, Integer.MIN_VALUE), -1);
        PupilPairs all = Check.loaded(Situations.ALL_FRIENDS);
        Check.due("the last of 13 friends", all.friendAt(0, 12) + " " + all.friendAt(13, 12), "13 12");
        Check.due("behind the last one", all.friendAt(0, 13) + " " + all.friendAt(13, 13), "-1 -1");
        Check.due("a pupil passes itself", all.friendAt(5, 4) + " " + all.friendAt(5, 5), "4 6");
        Check.due("one alone has no friend", Check.loaded("class 1 0").friendAt(0, 0), -1);
        Check.due("friendAt by RULE 2", Check.loaded("class 3 2;kind 0;friend 2 0 1").friendAt(2, 0), 1);
    }

    private static void whyNot() {
        PupilPairs x = school();
        Check.due("the same", x.whyNot(0, 0), 1);
        Check.due("no friends", x.whyNot(0, 4), 2);
        Check.due("RULE, and a mate", x.whyNot(0, 2), 3);
        Check.due("RULE", x.whyNot(4, 3), 3);
        Check.due("a has a mate", x.whyNot(0, 1), 4);
        Check.due("b has a mate", x.whyNot(1, 0), 5);
        Check.due("both have mates", x.whyNot(0, 3), 4);
        Check.due("they can", x.whyNot(4, 5), 0);
        x.part(0);
        Check.due("they can, behind part", x.whyNot(0, 3) + " " + x.whyNot(3, 0), "0 0");
        PupilPairs same = Check.loaded("class 3 2;kind 0;ring 0 1 2");
        Check.due("RULE 2", same.whyNot(0, 1) + " " + same.whyNot(1, 2), "3 0");
        Check.due("one alone", Check.loaded("class 1 0").whyNot(0, 0), 1);
        Check.dueThrows("whyNot(0, 6)", Check.INDEX, () -> x.whyNot(0, 6));
        Check.dueThrows("whyNot(-1, 0)", Check.INDEX, () -> x.whyNot(-1, 0));
    }
}

/** Promises 23 to 38, and section 4. */
public final class MostTest {
    private static final String TRIANGLE = "class 5 0;ring 0 1 2;friend 3 2 4;pair 1 2";
    private static final String STAR = "class 5 0;friend 0 1 2 3 4";
    private static final String PATH = "class 4 0;friend 1 0 2;friend 2 3;pair 1 2";

    public static void main(String[] args) {
        triangle();
        star();
        path();
        barrierOfTwo();
        allThreeSets();
        onePupil();
        allFriends();
        rules();
        firstPairing();
        proofs();
        wrongInputs();
        Check.finish();
    }

    private static void triangle() {
        PupilPairs x = Check.loaded(TRIANGLE);
        Check.due("most", x.most(), 2);
        Check.due("isMost", x.isMost(), false);
        Check.due("deficit", x.deficit(), 1);
        Check.due("loose", x.loose(), 1 + 2 + 4 + 16);
        Check.due("barrier", x.barrier(), 8);
        Check.due("rest", x.rest(), 0);
        Check.due("oddSets", x.oddSets(), 2);
        Check.due("oddSet(0)", x.oddSet(0), 7);
        Check.due("oddSet(1)", x.oddSet(1), 16);
        Check.due("oddSet(2)", x.oddSet(2), -1);
        Check.due("oddSet(-1)", x.oddSet(-1), -1);
        Check.due("proof", x.proof(), 2);
        Check.due("pairings", x.pairings(), 4L);
        Check.due("inSome", x.inSome(2, 3) && x.inSome(3, 2) && x.inSome(0, 1), true);
        Check.due("inAll", x.inAll(3, 4) || x.inAll(0, 1), false);
        x.fill();
        Check.due("isMost behind fill", x.isMost(), true);
        Check.due("pairs do not matter", x.loose() + x.most(), 25);
    }

    private static void star() {
        PupilPairs x = Check.loaded(STAR);
        Check.due("most", x.most(), 1);
        Check.due("deficit", x.deficit(), 3);
        Check.due("loose", x.loose(), 30);
        Check.due("barrier", x.barrier(), 1);
        Check.due("oddSets", x.oddSets(), 4);
        Check.due("oddSet(3)", x.oddSet(3), 16);
        Check.due("proof", x.proof(), 1);
        Check.due("odds(0)", x.odds(0), 1);
        Check.due("odds(1)", x.odds(1), 4);
        Check.due("odds(2)", x.odds(2), 0);
        Check.due("odds(3)", x.odds(3), 3);
        Check.due("odds of all", x.odds(31), 0);
        Check.due("isProof(1)", x.isProof(1), true);
        Check.due("isProof(3)", x.isProof(3), false);
        Check.due("isProof(0)", x.isProof(0), false);
        Check.due("smallestProof", x.smallestProof(), 1);
        Check.due("pairings", x.pairings(), 4L);
        Check.due("in some, not in all", x.inSome(0, 4) && !x.inAll(0, 4), true);
    }

    private static void path() {
        PupilPairs x = Check.loaded(PATH);
        Check.due("most", x.most(), 2);
        Check.due("isMost", x.isMost(), false);
        Check.due("deficit", x.deficit(), 0);
        Check.due("loose, barrier, rest", x.loose() + " " + x.barrier() + " " + x.rest(), "0 0 15");
        Check.due("oddSets", x.oddSets() + " " + x.oddSet(0), "0 -1");
        Check.due("proof", x.proof(), 2);
        Check.due("inAll", x.inAll(0, 1) && x.inAll(1, 0) && x.inAll(2, 3), true);
        Check.due("a pair that is in none", x.inSome(1, 2) || x.inAll(1, 2), false);
        Check.due("no friends", x.inSome(0, 3) || x.inAll(0, 3), false);
        Check.due("the same", x.inSome(1, 1) || x.inAll(1, 1), false);
        Check.due("pairings", x.pairings(), 1L);
        Check.due("smallestProof", x.smallestProof(), 0);
        Check.due("isProof of one and of two", x.isProof(2) && x.isProof(5) && !x.isProof(3), true);
    }

    private static void barrierOfTwo() {
        PupilPairs x = Check.loaded("class 8 0;friend 0 2 3 4;friend 1 4 5 6;friend 7 0 1");
        Check.due("most", x.most() + " " + x.deficit(), "2 4");
        Check.due("loose, barrier, rest", x.loose() + " " + x.barrier() + " " + x.rest(), "252 3 0");
        Check.due("odd sets", x.oddSets() + " " + x.oddSet(0) + " " + x.oddSet(5) + " " + x.oddSet(6), "6 4 128 -1");
        Check.due("proof", x.proof(), 2);
        Check.due("one of both does not prove", x.isProof(1) || x.isProof(2), false);
    }

    private static void allThreeSets() {
        PupilPairs x = Check.loaded("class 6 0;friend 0 1 2;friend 3 4");
        Check.due("loose, barrier, rest", x.loose() + " " + x.barrier() + " " + x.rest(), "38 1 24");
        Check.due("odd sets", x.oddSets() + " " + x.oddSet(0) + " " + x.oddSet(1) + " " + x.oddSet(2), "3 2 4 32");
        Check.due("no such index", x.oddSet(3) + " " + x.oddSet(Integer.MAX_VALUE) + " " + x.oddSet(Integer.MIN_VALUE),
            "-1 -1 -1");
        Check.due("proof", x.proof() + " " + x.most() + " " + x.deficit(), "2 2 2");
        Check.due("a part that is even does not count", x.odds(0) + " " + x.odds(1) + " " + x.odds(8), "2 3 3");
        PupilPairs y = Check.loaded("class 7 0;ring 1 5 6;friend 2 3;friend 2 4;friend 3 4;friend 0 6 3");
        Check.due("odd sets by their smallest pupils", y.oddSet(0) + " " + y.oddSet(1) + " " + y.barrier(), "98 28 1");
    }

    private static void onePupil() {
        PupilPairs x = Check.loaded("class 1 0");
        Check.due("most", x.most(), 0);
        Check.due("isMost", x.isMost(), true);
        Check.due("deficit", x.deficit(), 1);
        Check.due("sets", x.loose() + " " + x.barrier() + " " + x.rest() + " " + x.oddSet(0), "1 0 0 1");
        Check.due("proof", x.proof() + " " + x.smallestProof(), "0 0");
        Check.due("pairings", x.pairings(), 1L);
        Check.due("firstMate", x.firstMate(0), -1);
        Check.due("odds", x.odds(0) + " " + x.odds(1), "1 0");
        Check.due("isProof", x.isProof(0) + " " + x.isProof(1), "true false");
        Check.due("in none", x.inSome(0, 0) || x.inAll(0, 0), false);
        Check.dueThrows("odds(2)", Check.ARGUMENT, () -> x.odds(2));
        Check.due("isMost with no pairs to make", Check.loaded("class 14 0").isMost(), true);
        Check.due("no pairs are one pairing", Check.loaded("class 14 0").pairings(), 1L);
    }

    private static void allFriends() {
        PupilPairs x = Check.loaded(Situations.ALL_FRIENDS);
        Check.due("most of 14", x.most(), 7);
        Check.due("pairings of 14", x.pairings(), 135135L);
        Check.due("loose of 14", x.loose(), 0);
        Check.due("rest of 14", x.rest() + " " + x.deficit() + " " + x.proof(), "16383 0 7");
        Check.due("odds of 14", x.odds(0) + " " + x.odds(1) + " " + x.odds(16383), "0 1 0");
        Check.due("isProof of all but two", x.isProof(16383 - 3) + " " + x.isProof(1), "false true");
        Check.dueThrows("odds of a 15th", Check.ARGUMENT, () -> x.odds(16384));
        Check.dueThrows("isProof of a 15th", Check.ARGUMENT, () -> x.isProof(16384));
        Check.due("in some, in all", x.inSome(0, 13) + " " + x.inAll(0, 13), "true false");
        Check.due("firstMate of 12", x.firstMate(12), 13);
        PupilPairs y = Check.loaded(Situations.allFriends(13));
        Check.due("most of 13", y.most(), 6);
        Check.due("pairings of 13", y.pairings(), 135135L);
        Check.due("loose of 13", y.loose(), (1 << 13) - 1);
        Check.due("odd sets of 13", y.oddSets(), 1);
        Check.due("fill of 13", y.fill(), 6);
    }

    private static void rules() {
        PupilPairs x = Check.loaded("class 4 1;kind 0;ring 0 1 2 3");
        Check.due("most by RULE 1", x.most(), 1);
        Check.due("loose by RULE 1", x.loose(), 14);
        Check.due("odds by RULE 1", x.odds(0), 2);
        Check.due("in some by RULE 1", x.inSome(1, 2), false);
        x.setRule(2);
        Check.due("sets by RULE 2", x.loose() + " " + x.barrier() + " " + x.most(), "11 4 1");
    }

    private static void firstPairing() {
        PupilPairs x = Check.loaded(TRIANGLE);
        int[] due = {1, 0, 3, 2, -1};
        for (int p = 0; p < 5; p++) {
            Check.due("firstMate(" + p + ")", x.firstMate(p), due[p]);
        }
        PupilPairs y = Check.loaded("class 4 0;friend 0 1 3;friend 1 2;friend 2 3");
        Check.due("the smallest mate of 0", y.firstMate(0) + " " + y.firstMate(3), "1 2");
        PupilPairs z = Check.loaded("class 4 0;friend 0 1 3;friend 1 2");
        Check.due("not at the cost of a pair", z.firstMate(0) + " " + z.firstMate(1), "3 2");
        PupilPairs w = Check.loaded("class 3 0;friend 2 0 1");
        Check.due("free comes behind all", w.firstMate(0) + " " + w.firstMate(1) + " " + w.firstMate(2), "2 -1 0");
    }

    private static void proofs() {
        PupilPairs x = Check.loaded("class 8 0;friend 0 2 3 4;friend 1 4 5 6;friend 7 0 1");
        Check.due("most", x.most(), 2);
        Check.due("two are needed", x.smallestProof(), 3);
        PupilPairs two = Check.loaded("class 6 0;friend 0 2;friend 1 5;friend 2 3 5;friend 4 5");
        Check.due("2 proves, and so does 5", two.most() == 2 && two.isProof(4) && two.isProof(32), true);
        Check.due("of both the smallest number", two.smallestProof(), 4);
        PupilPairs y = Check.loaded(TRIANGLE);
        Check.due("fewer than the barrier", y.smallestProof(), 0);
        Check.due("the barrier proves, too", y.isProof(y.barrier()), true);
        Check.due("loose ones do not", y.isProof(2) || y.isProof(16), false);
    }

    private static void wrongInputs() {
        PupilPairs x = Check.loaded(STAR);
        for (int set : new int[] {32, -1, Integer.MIN_VALUE, 33}) {
            Check.dueThrows("odds", Check.ARGUMENT, () -> x.odds(set));
            Check.dueThrows("isProof", Check.ARGUMENT, () -> x.isProof(set));
        }
        for (int p : new int[] {-1, 5}) {
            Check.dueThrows("firstMate", Check.INDEX, () -> x.firstMate(p));
            Check.dueThrows("inSome", Check.INDEX, () -> x.inSome(p, 0));
            Check.dueThrows("inSome", Check.INDEX, () -> x.inSome(0, p));
            Check.dueThrows("inAll", Check.INDEX, () -> x.inAll(p, p));
            Check.dueThrows("inAll", Check.INDEX, () -> x.inAll(0, p));
        }
        PupilPairs y = new PupilPairs();
        Check.dueThrows("most", Check.STATE, y::most);
        Check.dueThrows("isMost", Check.STATE, y::isMost);
        Check.dueThrows("deficit", Check.STATE, y::deficit);
        Check.dueThrows("loose", Check.STATE, y::loose);
        Check.dueThrows("barrier", Check.STATE, y::barrier);
        Check.dueThrows("rest", Check.STATE, y::rest);
        Check.dueThrows("oddSets", Check.STATE, y::oddSets);
        Check.dueThrows("oddSet", Check.STATE, () -> y.oddSet(0));
        Check.dueThrows("proof", Check.STATE, y::proof);
        Check.dueThrows("odds", Check.STATE, () -> y.odds(-1));
        Check.dueThrows("isProof", Check.STATE, () -> y.isProof(-1));
        Check.dueThrows("smallestProof", Check.STATE, y::smallestProof);
        Check.dueThrows("inSome", Check.STATE, () -> y.inSome(0, 0));
        Check.dueThrows("inAll", Check.STATE, () -> y.inAll(0, 0));
        Check.dueThrows("pairings", Check.STATE, y::pairings);
        Check.dueThrows("firstMate", Check.STATE, () -> y.firstMate(0));
    }
}

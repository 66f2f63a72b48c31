import java.util.List;
import java.util.function.Supplier;

/** Objects in all the states that the document tells apart, made anew for each test that asks. */
final class Situations {
    /** Ten pupils; a search from 0 makes the blossom 2 to 6 in 8 steps and finds 9 in 21; from 9 it finds 0. */
    static final String BLOSSOM = "class 10 0;friend 0 1;friend 2 1 3 5;friend 4 3 6;friend 6 5 7;friend 8 7 9"
        + ";pair 1 2;pair 3 4;pair 5 6;pair 7 8";
    static final String SMALL = "class 5 0;ring 0 1 2;friend 3 2 4;pair 1 2";
    /** 14 pupils, each friend of each other one, in 13 lines. */
    static final String ALL_FRIENDS = allFriends(14);

    /** How to make an object, and what is known of it: slots tells those with something saved, by their numbers. */
    record Situation(String name, String slots, Supplier<PupilPairs> maker) {
        PupilPairs make() {
            return maker.get();
        }
    }

    private Situations() {
    }

    static List<Situation> all() {
        return List.of(
            new Situation("a new object", "", PupilPairs::new),
            new Situation("no text was loaded, behind an error", "", Situations::behindError),
            new Situation("no search", "", () -> Check.loaded(SMALL)),
            new Situation("no search behind fill", "0", Situations::filled),
            new Situation("a search at its begin", "", () -> searched(0)),
            new Situation("a search that goes on", "1", () -> searched(12)),
            new Situation("a search that has found", "1", () -> searched(21)),
            new Situation("a search that has failed", "", Situations::failed),
            new Situation("more than 8 changes", "01", Situations::manyChanges),
            new Situation("behind restore", "01", Situations::restored),
            new Situation("one pupil alone", "", Situations::alone),
            new Situation("14 pupils", "", () -> Check.loaded(ALL_FRIENDS)));
    }

    static String allFriends(int pupils) {
        StringBuilder text = new StringBuilder("class " + pupils + " 0");
        for (int p = 0; p + 1 < pupils; p++) {
            text.append(";friend ").append(p);
            for (int q = p + 1; q < pupils; q++) {
                text.append(' ').append(q);
            }
        }
        return text.toString();
    }

    private static PupilPairs behindError() {
        PupilPairs x = new PupilPairs();
        Check.append(x, "class 15 0");
        try {
            x.load(10);
        } catch (IllegalArgumentException bad) {
            Check.append(x, "class 3 0;kind 1;friend 0");
        }
        return x;
    }

    private static PupilPairs filled() {
        PupilPairs x = Check.loaded(SMALL);
        x.save(0);
        x.fill();
        x.writePairs();
        return x;
    }

    /** Behind so many steps of the search from 0; the slot 1 is saved at step 8, if there is one. */
    static PupilPairs searched(int steps) {
        PupilPairs x = Check.loaded(BLOSSOM);
        x.seek(0);
        for (int i = 1; i <= steps; i++) {
            x.step();
            if (i == 8) {
                x.save(1);
            }
        }
        x.writeGroups();
        Check.append(x, "class 2 0");
        return x;
    }

    private static PupilPairs failed() {
        PupilPairs x = Check.loaded(SMALL);
        x.fill();
        x.seek(4);
        x.run();
        x.writeWay(1);
        return x;
    }

    private static PupilPairs manyChanges() {
        PupilPairs x = Check.loaded("class 6 1;kind 0 2 4;ring 0 1 2 3 4 5;friend 0 2 3");
        x.save(0);
        x.fill();
        x.part(0);
        x.befriend(1, 4, true);
        x.setKind(5, 1);
        x.setRule(2);
        x.pair(0, 2);
        x.fill();
        x.save(1);
        x.setRule(0);
        x.befriend(0, 2, false);
        x.seek(0);
        x.step();
        return x;
    }

    private static PupilPairs restored() {
        PupilPairs x = manyChanges();
        x.restore(1);
        x.save(0);
        return x;
    }

    private static PupilPairs alone() {
        PupilPairs x = Check.loaded("class 1 2");
        x.seek(0);
        return x;
    }
}

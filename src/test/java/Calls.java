import java.util.ArrayList;
import java.util.List;
import java.util.function.Function;

/**
 * Calls of all methods with numbers inside, at and beyond their bounds, each with the exception that is due for it in
 * the state of an object: of several the one that the document lists first. Only load and append are told elsewhere.
 */
final class Calls {
    /** CHANGE can be undone; KEEP is undo, save and restore. */
    enum Sort { ASK, WRITE, CHANGE, KEEP }

    /** The exception is null if none is due. */
    record Call(String told, Sort sort, Class<? extends RuntimeException> due, Function<PupilPairs, Object> function) {
    }

    interface OfTwo {
        Object answer(PupilPairs x, int a, int b);
    }

    interface OfOne {
        Object answer(PupilPairs x, int a);
    }

    private final PupilPairs x;
    private final String slots;
    private final boolean isLoaded;
    private final int pupils;
    private final List<Call> calls = new ArrayList<>();

    private Calls(PupilPairs x, String slots) {
        this.x = x;
        this.slots = slots;
        isLoaded = Told.isLoaded(x);
        pupils = isLoaded ? x.count(0) : 3;
    }

    static List<Call> of(PupilPairs x, String slots) {
        Calls all = new Calls(x, slots);
        all.addPupils();
        all.addSearch();
        all.addMost();
        all.addWhatIf();
        all.addTexts();
        all.addChanges();
        all.addKeeping();
        return all.calls;
    }

    private static int[] around(int greatest) {
        return new int[] {Integer.MIN_VALUE, -1, 0, greatest, greatest + 1, Integer.MAX_VALUE};
    }

    // ---- exceptions, null if one is not due

    private Class<? extends RuntimeException> text() {
        return isLoaded ? null : Check.STATE;
    }

    private Class<? extends RuntimeException> there(int p) {
        return p < 0 || p >= pupils ? Check.INDEX : null;
    }

    private Class<? extends RuntimeException> both(int a, int b) {
        return first(text(), there(a), there(b));
    }

    private static Class<? extends RuntimeException> within(int what, int greatest) {
        return what < 0 || what > greatest ? Check.ARGUMENT : null;
    }

    private static Class<? extends RuntimeException> unless(boolean holds) {
        return holds ? null : Check.ARGUMENT;
    }

    @SafeVarargs
    private static Class<? extends RuntimeException> first(Class<? extends RuntimeException>... due) {
        for (Class<? extends RuntimeException> one : due) {
            if (one != null) {
                return one;
            }
        }
        return null;
    }

    // ---- sorts of calls

    private void add(String told, Sort sort, Class<? extends RuntimeException> due, Function<PupilPairs, Object> f) {
        calls.add(new Call(told, sort, due, f));
    }

    private void ofNothing(String name, Function<PupilPairs, Object> f) {
        add(name + "()", Sort.ASK, text(), f);
    }

    private void ofNumber(String name, int greatest, OfOne f) {
        for (int what : around(greatest)) {
            add(name + "(" + what + ")", Sort.ASK, first(text(), within(what, greatest)), y -> f.answer(y, what));
        }
    }

    private void ofAnyIndex(String name, OfOne f) {
        for (int i : around(pupils - 1)) {
            add(name + "(" + i + ")", Sort.ASK, text(), y -> f.answer(y, i));
        }
    }

    private void ofPupil(String name, Sort sort, OfOne f) {
        for (int p : around(pupils - 1)) {
            add(name + "(" + p + ")", sort, first(text(), there(p)), y -> f.answer(y, p));
        }
    }

    private void ofPupilAndAnyIndex(String name, OfTwo f) {
        for (int p : around(pupils - 1)) {
            for (int i : around(pupils)) {
                add(name + "(" + p + ", " + i + ")", Sort.ASK, first(text(), there(p)), y -> f.answer(y, p, i));
            }
        }
    }

    private void ofTwo(String name, OfTwo f) {
        for (int a : around(pupils - 1)) {
            for (int b : around(pupils - 1)) {
                add(name + "(" + a + ", " + b + ")", Sort.ASK, both(a, b), y -> f.answer(y, a, b));
            }
        }
    }

    // ---- all methods

    private void addPupils() {
        ofNumber("count", 10, PupilPairs::count);
        for (int p : around(pupils - 1)) {
            for (int what : around(3)) {
                add("pupil(" + p + ", " + what + ")", Sort.ASK, first(text(), there(p), within(what, 3)),
                    y -> y.pupil(p, what));
            }
        }
        ofTwo("friends", PupilPairs::friends);
        ofPupilAndAnyIndex("friendAt", PupilPairs::friendAt);
        ofTwo("whyNot", PupilPairs::whyNot);
    }

    private void addSearch() {
        ofNumber("search", 7, PupilPairs::search);
        ofPupil("label", Sort.ASK, PupilPairs::label);
        ofPupil("group", Sort.ASK, PupilPairs::group);
        ofPupil("base", Sort.ASK, PupilPairs::base);
        ofPupil("link", Sort.ASK, PupilPairs::link);
        ofPupil("near bridge", Sort.ASK, (y, p) -> y.bridge(p, false));
        ofPupil("far bridge", Sort.ASK, (y, p) -> y.bridge(p, true));
        ofAnyIndex("queueAt", PupilPairs::queueAt);
        ofNothing("next", PupilPairs::next);
        ofPupil("wayLength", Sort.ASK, PupilPairs::wayLength);
        ofPupilAndAnyIndex("wayAt", PupilPairs::wayAt);
        ofNothing("blossoms", PupilPairs::blossoms);
    }

    private void addMost() {
        ofNothing("most", PupilPairs::most);
        ofNothing("isMost", PupilPairs::isMost);
        ofNothing("deficit", PupilPairs::deficit);
        ofNothing("loose", PupilPairs::loose);
        ofNothing("barrier", PupilPairs::barrier);
        ofNothing("rest", PupilPairs::rest);
        ofNothing("oddSets", PupilPairs::oddSets);
        ofAnyIndex("oddSet", PupilPairs::oddSet);
        ofNothing("proof", PupilPairs::proof);
        int everybody = (1 << pupils) - 1;
        ofNumber("odds", everybody, PupilPairs::odds);
        ofNumber("isProof", everybody, PupilPairs::isProof);
        ofNothing("smallestProof", PupilPairs::smallestProof);
        ofTwo("inSome", PupilPairs::inSome);
        ofTwo("inAll", PupilPairs::inAll);
        ofNothing("pairings", PupilPairs::pairings);
        ofPupil("firstMate", Sort.ASK, PupilPairs::firstMate);
    }

    private void addWhatIf() {
        ofPupil("mostWithout", Sort.ASK, PupilPairs::mostWithout);
        ofTwo("mostIf", PupilPairs::mostIf);
        ofNumber("mostBy", 2, PupilPairs::mostBy);
        ofNothing("bestRule", PupilPairs::bestRule);
        ofNothing("helps", PupilPairs::helps);
        ofPupil("wouldEnd", Sort.ASK, PupilPairs::wouldEnd);
        ofPupil("stepsTo", Sort.ASK, PupilPairs::stepsTo);
        ofNothing("meanFriends", PupilPairs::meanFriends);
        ofNothing("pairedShare", PupilPairs::pairedShare);
        // these ask for no text
        add("undoable()", Sort.ASK, null, PupilPairs::undoable);
        add("parseError()", Sort.ASK, null, PupilPairs::parseError);
        add("errorPosition()", Sort.ASK, null, PupilPairs::errorPosition);
        add("buffered()", Sort.ASK, null, PupilPairs::buffered);
    }

    private void addTexts() {
        add("writePairs()", Sort.WRITE, text(), PupilPairs::writePairs);
        add("writeGroups()", Sort.WRITE, text(), PupilPairs::writeGroups);
        ofPupil("writeWay", Sort.WRITE, PupilPairs::writeWay);
        int length = Told.text(x).length();
        for (int i : around(length)) {
            boolean isThere = i >= 0 && i < length;
            add("textByte(" + i + ")", Sort.ASK, isThere ? null : Check.INDEX, y -> y.textByte(i));
        }
    }

    private boolean isFree(int p) {
        return x.pupil(p, 3) == PupilPairs.NONE;
    }

    private void addChanges() {
        boolean isGoing = isLoaded && x.search(0) == 1;
        for (int p : around(pupils - 1)) {
            boolean isThere = isLoaded && there(p) == null;
            Class<? extends RuntimeException> index = first(text(), there(p));
            add("seek(" + p + ")", Sort.CHANGE, first(index, unless(isThere && isFree(p))), y -> y.seek(p));
            add("part(" + p + ")", Sort.CHANGE, first(index, unless(isThere && !isFree(p))), y -> y.part(p));
            add("flip(" + p + ")", Sort.CHANGE, first(index, unless(isThere && x.wayLength(p) > 0)), y -> y.flip(p));
            for (int kind : around(1)) {
                add("setKind(" + p + ", " + kind + ")", Sort.CHANGE, first(index, within(kind, 1)),
                    y -> y.setKind(p, kind));
            }
        }
        add("step()", Sort.CHANGE, first(text(), unless(isGoing)), PupilPairs::step);
        add("run()", Sort.CHANGE, first(text(), unless(isGoing)), PupilPairs::run);
        add("fill()", Sort.CHANGE, text(), PupilPairs::fill);
        for (int rule : around(2)) {
            add("setRule(" + rule + ")", Sort.CHANGE, first(text(), within(rule, 2)), y -> y.setRule(rule));
        }
        for (int a = -1; a <= pupils; a++) {
            addChangesOfTwo(a, Integer.MIN_VALUE);
            addChangesOfTwo(Integer.MAX_VALUE, a);
            for (int b = -1; b <= pupils; b++) {
                addChangesOfTwo(a, b);
            }
        }
    }

    private void addChangesOfTwo(int a, int b) {
        Class<? extends RuntimeException> index = both(a, b);
        String two = "(" + a + ", " + b + ")";
        boolean isThere = index == null;
        add("pair" + two, Sort.CHANGE, first(index, unless(isThere && x.whyNot(a, b) == 0)), y -> y.pair(a, b));
        add("befriend on" + two, Sort.CHANGE, first(index, unless(a != b)), y -> y.befriend(a, b, true));
        add("befriend off" + two, Sort.CHANGE, first(index, unless(a != b)), y -> y.befriend(a, b, false));
    }

    private void addKeeping() {
        add("undo()", Sort.KEEP, x.undoable() > 0 ? null : Check.STATE, PupilPairs::undo);
        for (int slot : around(1)) {
            Class<? extends RuntimeException> index = slot < 0 || slot > 1 ? Check.INDEX : null;
            Class<? extends RuntimeException> saved = slots.contains("" + slot) ? null : Check.STATE;
            add("save(" + slot + ")", Sort.KEEP, first(text(), index), y -> y.save(slot));
            add("restore(" + slot + ")", Sort.KEEP, first(index, saved), y -> y.restore(slot));
        }
    }
}

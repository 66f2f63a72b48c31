/**
 * Section 7 and promises 3 and 62 to 65 in each state: each change is one that undo brings back wholly, and so does
 * restore; load keeps all if the text has an error, and nothing if it has none.
 */
public final class KeptStatesTest {
    private static final int MOST_KEPT = 8;

    public static void main(String[] args) {
        for (Situations.Situation situation : Situations.all()) {
            badText(situation);
            goodText(situation);
            for (Calls.Call call : Calls.of(situation.make(), situation.slots())) {
                if (call.due() == null && call.sort() == Calls.Sort.CHANGE) {
                    undone(situation, call);
                    restored(situation, call);
                    savedAgain(situation, call);
                }
            }
        }
        Check.finish();
    }

    /** The class, what was saved, what can be undone and the text that was written stay; the buffer is empty. */
    private static void badText(Situations.Situation situation) {
        PupilPairs x = situation.make();
        Check.dueThrows(situation.name() + ": load of a bad text", Check.ARGUMENT, () -> x.load(0));
        Check.due(situation.name() + ": its error", x.buffered() + " " + x.parseError() + " " + x.errorPosition(),
            "0 1 0");
        Check.due(situation.name() + ": all but the input", withoutInput(Told.kept(x)),
            withoutInput(Told.kept(situation.make())));
    }

    private static String withoutInput(String told) {
        return told.replaceAll("input .*\n", "");
    }

    /** All is as in a new object but the text that was written. */
    private static void goodText(Situations.Situation situation) {
        PupilPairs x = situation.make();
        String written = Told.text(x);
        if (x.buffered() > 0) {
            Check.dueThrows("load of nothing", Check.ARGUMENT, () -> x.load(0));
        }
        Check.due(situation.name() + ": load", Check.load(x, Situations.SMALL), 5);
        Check.due(situation.name() + ": the text stays", Told.text(x), written);
        Check.due(situation.name() + ": all else behind load", withoutText(Told.kept(x)),
            withoutText(Told.kept(Check.loaded(Situations.SMALL))));
    }

    private static String withoutText(String told) {
        return told.replaceAll("text .*\n", "");
    }

    private static void undone(Situations.Situation situation, Calls.Call call) {
        PupilPairs x = situation.make();
        String name = situation.name() + ": " + call.told();
        int changes = x.undoable();
        String before = Told.state(x);
        call.function().apply(x);
        Check.due(name + " is a change", x.undoable(), Math.min(changes + 1, MOST_KEPT));
        Check.due("undo of " + name, x.undo(), Math.min(changes, MOST_KEPT - 1));
        Check.due("all behind undo of " + name, Told.state(x), before);
        if (changes > 0 && changes < MOST_KEPT) {
            x.undo();
            PupilPairs y = situation.make();
            y.undo();
            Check.due("behind the undo before " + name, Told.state(x), Told.state(y));
        }
    }

    private static void restored(Situations.Situation situation, Calls.Call call) {
        for (int slot = 0; slot < 2; slot++) {
            PupilPairs x = situation.make();
            String name = situation.name() + ": " + call.told() + " behind save(" + slot + ")";
            String before = Told.state(x);
            int changes = x.undoable();
            Check.due("the pairs, of save, " + name, x.save(slot), x.count(3));
            Check.due("no change by save, " + name, x.undoable() + Told.state(x), changes + before);
            for (int time = 0; time < 2; time++) {
                call.function().apply(x);
                int inSlot = slot;
                Check.due("the pairs, of restore, " + name, x.restore(inSlot), x.count(3));
                Check.due("all behind restore, " + name, Told.state(x), before);
                Check.due("nothing can be undone, " + name, x.undoable(), 0);
                Check.dueThrows("undo behind restore, " + name, Check.STATE, x::undo);
            }
        }
    }

    /** What is saved comes in place of what was saved there; the other slot stays. */
    private static void savedAgain(Situations.Situation situation, Calls.Call call) {
        PupilPairs x = situation.make();
        String name = situation.name() + ": " + call.told();
        String before = Told.state(x);
        x.save(0);
        x.save(1);
        call.function().apply(x);
        String behind = Told.state(x);
        x.save(1);
        x.restore(0);
        Check.due("the slot that stays, " + name, Told.state(x), before);
        x.restore(1);
        Check.due("the slot that is saved again, " + name, Told.state(x), behind);
    }
}

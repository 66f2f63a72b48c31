/**
 * Section 7 at each promise: of several exceptions the first one is thrown, a refused call leaves all as it was, and so
 * does a call that is no change.
 */
public final class RefusedCallsTest {
    public static void main(String[] args) {
        for (Situations.Situation situation : Situations.all()) {
            asksChangeNothing(situation);
            refusedChangeNothing(situation);
        }
        loadOfMoreThanThereIs();
        Check.finish();
    }

    private static void asksChangeNothing(Situations.Situation situation) {
        PupilPairs x = situation.make();
        String before = Told.all(x);
        for (Calls.Call call : Calls.of(x, situation.slots())) {
            if (call.due() == null && call.sort() == Calls.Sort.ASK) {
                call.function().apply(x);
                dueSame(situation, call.told(), Told.all(x), before);
            }
        }
        dueSame(situation, "all that is kept, behind asking", Told.kept(x), Told.kept(situation.make()));
    }

    private static void refusedChangeNothing(Situations.Situation situation) {
        PupilPairs x = situation.make();
        String before = Told.all(x);
        for (Calls.Call call : Calls.of(x, situation.slots())) {
            if (call.due() != null) {
                Check.dueThrows(situation.name() + ": " + call.told(), call.due(), () -> call.function().apply(x));
                dueSame(situation, call.told(), Told.all(x), before);
            }
        }
        dueSame(situation, "all that is kept, behind refused calls", Told.kept(x), Told.kept(situation.make()));
    }

    /** Promises 3 to 5: such a call leaves the buffer, parseError() and errorPosition(), too. */
    private static void loadOfMoreThanThereIs() {
        for (Situations.Situation situation : Situations.all()) {
            PupilPairs x = situation.make();
            String before = Told.all(x);
            for (int n : new int[] {Integer.MIN_VALUE, -1, x.buffered() + 1, Integer.MAX_VALUE}) {
                Check.dueThrows(situation.name() + ": load(" + n + ")", Check.INDEX, () -> x.load(n));
                dueSame(situation, "load(" + n + ")", Told.all(x), before);
            }
            dueSame(situation, "all that is kept, behind load", Told.kept(x), Told.kept(situation.make()));
        }
    }

    private static void dueSame(Situations.Situation situation, String what, String now, String before) {
        if (!now.equals(before)) {
            Check.due(situation.name() + ": " + what + " left", now, before);
        }
    }
}

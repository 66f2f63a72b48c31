/** All that an object tells, as one text, so that two moments or two objects can be compared. */
final class Told {
    private static final int MAX_PUPILS = 14;
    private static final int TEXT_BYTES = 64;

    private Told() {
    }

    /** Everything but how many changes can be undone. */
    static String state(PupilPairs x) {
        StringBuilder told = new StringBuilder();
        told.append("input ").append(x.buffered()).append(' ').append(x.parseError()).append(' ')
            .append(x.errorPosition()).append("\ntext ").append(text(x)).append('\n');
        if (!isLoaded(x)) {
            return told.append("no text was loaded\n").toString();
        }
        addPupils(told, x);
        addSearch(told, x);
        return told.toString();
    }

    static String all(PupilPairs x) {
        return state(x) + "undoable " + x.undoable() + "\n";
    }

    /** All that is told now, behind each undo, and behind the restore of each slot; the object is used up by this. */
    static String kept(PupilPairs x) {
        StringBuilder told = new StringBuilder(all(x));
        while (x.undoable() > 0) {
            x.undo();
            told.append("undone\n").append(all(x));
        }
        for (int slot = 0; slot < 2; slot++) {
            try {
                x.restore(slot);
                told.append("restored ").append(slot).append('\n').append(all(x));
            } catch (IllegalStateException nothing) {
                told.append("nothing in ").append(slot).append('\n');
            }
        }
        return told.toString();
    }

    static boolean isLoaded(PupilPairs x) {
        try {
            return x.count(0) > 0;
        } catch (IllegalStateException none) {
            return false;
        }
    }

    /** The text that was written last, without asking how long it is. */
    static String text(PupilPairs x) {
        StringBuilder text = new StringBuilder();
        for (int i = 0; i < TEXT_BYTES; i++) {
            try {
                text.append((char) x.textByte(i));
            } catch (IndexOutOfBoundsException end) {
                break;
            }
        }
        return text.toString();
    }

    private static void addPupils(StringBuilder told, PupilPairs x) {
        told.append("counts");
        for (int what = 0; what <= 10; what++) {
            told.append(' ').append(x.count(what));
        }
        told.append(" most ").append(x.most()).append(' ').append(x.pairings()).append('\n');
        for (int p = 0; p < x.count(0); p++) {
            told.append("pupil ").append(p);
            for (int what = 0; what <= 3; what++) {
                told.append(' ').append(x.pupil(p, what));
            }
            told.append(" friends");
            for (int q = 0; q < x.count(0); q++) {
                told.append(x.friends(p, q) ? " " + q : "");
            }
            told.append(" allowed");
            for (int i = 0; i < MAX_PUPILS; i++) {
                told.append(' ').append(x.friendAt(p, i));
            }
            told.append('\n');
        }
    }

    private static void addSearch(StringBuilder told, PupilPairs x) {
        told.append("search");
        for (int what = 0; what <= 7; what++) {
            told.append(' ').append(x.search(what));
        }
        told.append(" next ").append(x.next()).append(" blossoms ").append(x.blossoms()).append(" queue");
        for (int i = 0; i < MAX_PUPILS; i++) {
            told.append(' ').append(x.queueAt(i));
        }
        told.append('\n');
        for (int p = 0; p < x.count(0); p++) {
            told.append("in it ").append(x.label(p)).append(' ').append(x.group(p)).append(' ').append(x.base(p))
                .append(' ').append(x.link(p)).append(' ').append(x.bridge(p, false)).append(' ')
                .append(x.bridge(p, true)).append(" way ").append(x.wayLength(p));
            for (int i = 0; i < MAX_PUPILS; i++) {
                told.append(' ').append(x.wayAt(p, i));
            }
            told.append('\n');
        }
    }
}

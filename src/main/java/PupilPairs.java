/** Pupils of two kinds that are paired with friends. The document ../shared/DOC.md tells what each method does. */
public final class PupilPairs {
    public static final int NONE = -1;

    private static final int MAX_PUPILS = 14;
    private static final int MAX_BYTES = 500;
    private static final int MAX_UNDO = 8;
    private static final int SLOTS = 2;

    private static final int GOES_ON = 1;
    private static final int FOUND = 2;
    private static final int FAILED = 3;

    private final Parser parser = new Parser();
    private final Text text = new Text();
    private final MostTable table = new MostTable();
    private final State now = new State();
    private final State trial = new State();
    private final State[] earlier = new State[MAX_UNDO];
    private final State[] saved = new State[SLOTS];
    private int earlierEnd;
    private int earlierCount;
    private int savedSlots;
    private boolean loaded;

    public PupilPairs() {
        for (int i = 0; i < MAX_UNDO; i++) {
            earlier[i] = new State();
        }
        for (int i = 0; i < SLOTS; i++) {
            saved[i] = new State();
        }
    }

    // ---- input

    public int append(int a, int b, int c, int d, int e) {
        if (!parser.hasRoom()) {
            return NONE;
        }
        parser.appendWord(a);
        parser.appendWord(b);
        parser.appendWord(c);
        parser.appendWord(d);
        parser.appendWord(e);
        return parser.length;
    }

    public int load(int n) throws IndexOutOfBoundsException, IllegalArgumentException {
        if (n < 0 || n > parser.length) {
            throw new IndexOutOfBoundsException("not so many bytes in the buffer");
        }
        if (!parser.parse(n)) {
            throw new IllegalArgumentException("the text has an error");
        }
        now.startWith(parser.draft);
        loaded = true;
        earlierCount = 0;
        savedSlots = 0;
        return now.pupils.number;
    }

    public int parseError() {
        return parser.error;
    }

    public int errorPosition() {
        return parser.errorAt;
    }

    public int buffered() {
        return parser.length;
    }

    // ---- pupils and pairs

    public int count(int what) throws IllegalStateException, IllegalArgumentException {
        needText();
        needRange(what, 10);
        Pupils pupils = now.pupils;
        switch (what) {
            case 0: return pupils.number;
            case 1: return pupils.friendships();
            case 2: return pupils.allowedFriendships();
            case 3: return pupils.pairCount();
            case 4: return pupils.number - 2 * pupils.pairCount();
            case 5: return pupils.rule;
            case 6: return Integer.bitCount(pupils.kinds);
            case 7: return now.pairsMade;
            case 8: return now.searchesFailed;
            case 9: return now.blossomsMade;
            default: return now.pairsLost;
        }
    }

    public int pupil(int p, int what)
            throws IllegalStateException, IndexOutOfBoundsException, IllegalArgumentException {
        needPupil(p);
        needRange(what, 3);
        Pupils pupils = now.pupils;
        switch (what) {
            case 0: return pupils.kindOf(p);
            case 1: return Integer.bitCount(pupils.friendSet(p));
            case 2: return Integer.bitCount(pupils.allowedSet(p));
            default: return pupils.mateOf(p);
        }
    }

    public boolean friends(int a, int b) throws IllegalStateException, IndexOutOfBoundsException {
        needPupils(a, b);
        return has(now.pupils.friendSet(a), b);
    }

    public int friendAt(int p, int i) throws IllegalStateException, IndexOutOfBoundsException {
        needPupil(p);
        int allowed = now.pupils.allowedSet(p);
        int before = 0;
        for (int q = 0; q < MAX_PUPILS; q++) {
            if (has(allowed, q)) {
                if (before == i) {
                    return q;
                }
                before++;
            }
        }
        return NONE;
    }

    public int whyNot(int a, int b) throws IllegalStateException, IndexOutOfBoundsException {
        needPupils(a, b);
        return obstacle(a, b);
    }

    private int obstacle(int a, int b) {
        Pupils pupils = now.pupils;
        if (a == b) {
            return 1;
        }
        if (!has(pupils.friendSet(a), b)) {
            return 2;
        }
        if (!pupils.ruleAllows(a, b)) {
            return 3;
        }
        if (!pupils.isFree(a)) {
            return 4;
        }
        return pupils.isFree(b) ? 0 : 5;
    }

    // ---- the search (section 3)

    public int search(int what) throws IllegalStateException, IllegalArgumentException {
        needText();
        needRange(what, 7);
        Search search = now.search;
        if (what == 0) {
            return search.status;
        }
        if (!search.isTold()) {
            return NONE;
        }
        switch (what) {
            case 1: return search.root;
            case 2: return search.steps;
            case 3: return search.blossomsMade;
            case 4: return Integer.bitCount(search.outer);
            case 5: return Integer.bitCount(search.inner);
            case 6: return search.queueLength();
            default: return groupsOfAtLeast(1);
        }
    }

    public int label(int p) throws IllegalStateException, IndexOutOfBoundsException {
        needPupil(p);
        return now.search.isTold() ? now.search.labelOf(p) : NONE;
    }

    public int group(int p) throws IllegalStateException, IndexOutOfBoundsException {
        needPupil(p);
        return groupOf(p);
    }

    private int groupOf(int p) {
        return now.search.isTold() ? now.search.groupWithBase(now.search.baseOf(p)) : 0;
    }

    public int base(int p) throws IllegalStateException, IndexOutOfBoundsException {
        needPupil(p);
        return now.search.isTold() ? now.search.baseOf(p) : NONE;
    }

    public int link(int p) throws IllegalStateException, IndexOutOfBoundsException {
        needPupil(p);
        return now.search.isTold() ? at(now.search.links, p) : NONE;
    }

    public int bridge(int p, boolean far) throws IllegalStateException, IndexOutOfBoundsException {
        needPupil(p);
        if (!now.search.isTold()) {
            return NONE;
        }
        return at(far ? now.search.farEnds : now.search.nearEnds, p);
    }

    public int queueAt(int i) throws IllegalStateException {
        needText();
        return now.search.isTold() ? now.search.inQueue(i) : NONE;
    }

    public int next() throws IllegalStateException {
        needText();
        if (now.search.status != GOES_ON) {
            return NONE;
        }
        int friend = now.search.askedNext(now.pupils);
        return 100 * now.search.inQueue(0) + (friend == NONE ? 99 : friend);
    }

    public int wayLength(int p) throws IllegalStateException, IndexOutOfBoundsException {
        needPupil(p);
        return now.search.toldWayLength(p);
    }

    public int wayAt(int p, int i) throws IllegalStateException, IndexOutOfBoundsException {
        needPupil(p);
        return i < now.search.toldWayLength(p) ? now.search.ways.pupilAt(p, i) : NONE;
    }

    public int blossoms() throws IllegalStateException {
        needText();
        return groupsOfAtLeast(3);
    }

    private int groupsOfAtLeast(int size) {
        int groups = 0;
        for (int p = 0; p < now.pupils.number; p++) {
            int group = groupOf(p);
            if (isSmallest(group, p) && Integer.bitCount(group) >= size) {
                groups++;
            }
        }
        return groups;
    }

    // ---- the most pairs, and the proof (section 4)

    public int most() throws IllegalStateException {
        needText();
        return tableNow().pairs();
    }

    public boolean isMost() throws IllegalStateException {
        needText();
        return now.pupils.pairCount() == tableNow().pairs();
    }

    public int deficit() throws IllegalStateException {
        needText();
        return tableNow().freePupils();
    }

    public int loose() throws IllegalStateException {
        needText();
        return tableNow().looseSet();
    }

    public int barrier() throws IllegalStateException {
        needText();
        MostTable most = tableNow();
        return most.barrierOf(most.looseSet());
    }

    public int rest() throws IllegalStateException {
        needText();
        MostTable most = tableNow();
        int loose = most.looseSet();
        return now.pupils.everybody() & ~loose & ~most.barrierOf(loose);
    }

    public int oddSets() throws IllegalStateException {
        needText();
        MostTable most = tableNow();
        return most.partsOf(most.looseSet(), false);
    }

    public int oddSet(int i) throws IllegalStateException {
        needText();
        MostTable most = tableNow();
        int left = most.looseSet();
        for (int k = 0; k < MAX_PUPILS && left != 0; k++) {
            int part = most.firstPart(left);
            if (k == i) {
                return part;
            }
            left &= ~part;
        }
        return NONE;
    }

    public int proof() throws IllegalStateException {
        needText();
        MostTable most = tableNow();
        int loose = most.looseSet();
        int inBarrier = Integer.bitCount(most.barrierOf(loose));
        return (now.pupils.number + inBarrier - most.partsOf(loose, false)) / 2;
    }

    public int odds(int set) throws IllegalStateException, IllegalArgumentException {
        needText();
        needSet(set);
        return tableNow().oddsWithout(set);
    }

    public boolean isProof(int set) throws IllegalStateException, IllegalArgumentException {
        needText();
        needSet(set);
        MostTable most = tableNow();
        return most.proves(set, most.freePupils());
    }

    public int smallestProof() throws IllegalStateException {
        needText();
        MostTable most = tableNow();
        // With MOST pairs each pupil of a proof has a mate in an odd part, so that none of them is LOOSE.
        int others = now.pupils.everybody() & ~most.looseSet();
        int free = most.freePupils();
        int best = others;
        int fewest = MAX_PUPILS + 1;
        int set = 0;
        for (int i = 0; i < 1 << MAX_PUPILS && fewest > 0; i++) {
            if (Integer.bitCount(set) < fewest && most.proves(set, free)) {
                best = set;
                fewest = Integer.bitCount(set);
            }
            // the next greater number that has bits of others alone; 0 behind the greatest
            set = (set - others) & others;
            if (set == 0) {
                break;
            }
        }
        return best;
    }

    public boolean inSome(int a, int b) throws IllegalStateException, IndexOutOfBoundsException {
        needPupils(a, b);
        return tableNow().isUsed(a, b);
    }

    public boolean inAll(int a, int b) throws IllegalStateException, IndexOutOfBoundsException {
        needPupils(a, b);
        return tableNow().isNeeded(a, b);
    }

    public long pairings() throws IllegalStateException {
        needText();
        return tableNow().pairingsIn(now.pupils.everybody());
    }

    public int firstMate(int p) throws IllegalStateException, IndexOutOfBoundsException {
        needPupil(p);
        MostTable most = tableNow();
        int left = now.pupils.everybody();
        for (int q = 0; q < MAX_PUPILS; q++) {
            if (has(left, q)) {
                int mate = most.firstMateIn(left, q);
                if (q == p || mate == p) {
                    return q == p ? mate : q;
                }
                left &= ~(bit(q) | bit(mate));
            }
        }
        return NONE;
    }

    // ---- what would be (nothing is changed)

    public int mostWithout(int p) throws IllegalStateException, IndexOutOfBoundsException {
        needPupil(p);
        return tableNow().pairsBut(p, p);
    }

    public int mostIf(int a, int b) throws IllegalStateException, IndexOutOfBoundsException {
        needPupils(a, b);
        MostTable most = tableNow();
        int pairs = most.pairs();
        if (a == b || !now.pupils.ruleAllows(a, b)) {
            return pairs;
        }
        if (has(now.pupils.friendSet(a), b)) {
            return most.isNeeded(a, b) ? pairs - 1 : pairs;
        }
        return Math.max(pairs, most.pairsBut(a, b) + 1);
    }

    public int mostBy(int rule) throws IllegalStateException, IllegalArgumentException {
        needText();
        needRange(rule, 2);
        table.prepare(now.pupils, rule);
        return table.pairs();
    }

    public int bestRule() throws IllegalStateException {
        needText();
        // RULE 0 allows all that the others allow, so that none of them gives more pairs.
        return 0;
    }

    public int helps() throws IllegalStateException {
        needText();
        MostTable most = tableNow();
        int pairs = most.pairs();
        int helping = 0;
        for (int a = 0; a < now.pupils.number; a++) {
            for (int b = a + 1; b < now.pupils.number; b++) {
                boolean isNew = !has(now.pupils.friendSet(a), b) && now.pupils.ruleAllows(a, b);
                if (isNew && most.pairsBut(a, b) == pairs) {
                    helping++;
                }
            }
        }
        return helping;
    }

    public int wouldEnd(int p) throws IllegalStateException, IndexOutOfBoundsException {
        needPupil(p);
        trial.startFrom(now.pupils, p);
        trial.runOut();
        return trial.search.isTold() ? trial.search.status : NONE;
    }

    public int stepsTo(int p) throws IllegalStateException, IndexOutOfBoundsException {
        needPupil(p);
        trial.startFrom(now.pupils, p);
        trial.runOut();
        return trial.search.isTold() ? trial.search.steps : NONE;
    }

    // ---- other numbers

    public double meanFriends() throws IllegalStateException {
        needText();
        int number = now.pupils.number;
        return number > 0 ? (double) (2 * now.pupils.allowedFriendships()) / (double) number : 0;
    }

    public float pairedShare() throws IllegalStateException {
        needText();
        int number = now.pupils.number;
        return number > 0 ? (float) (2 * now.pupils.pairCount()) / (float) number : 0;
    }

    // ---- texts

    public int writePairs() throws IllegalStateException {
        needText();
        text.clear();
        for (int p = 0; p < now.pupils.number; p++) {
            int mate = now.pupils.mateOf(p);
            if (mate > p) {
                text.separate(' ');
                text.addNumber(p);
                text.add('-');
                text.addNumber(mate);
            }
        }
        return text.finish();
    }

    public int writeGroups() throws IllegalStateException {
        needText();
        text.clear();
        for (int p = 0; p < now.pupils.number; p++) {
            int group = groupOf(p);
            int label = now.search.labelOf(p);
            if (isSmallest(group, p) && label != 0) {
                text.separate(' ');
                text.addSet(group);
                text.add(label == 1 ? 'o' : 'i');
            }
        }
        return text.finish();
    }

    public int writeWay(int p) throws IllegalStateException, IndexOutOfBoundsException {
        needPupil(p);
        text.clear();
        int length = now.search.toldWayLength(p);
        for (int i = 0; i < length; i++) {
            text.separate('>');
            text.addNumber(now.search.ways.pupilAt(p, i));
        }
        return text.finish();
    }

    public int textByte(int i) throws IndexOutOfBoundsException {
        if (i < 0 || i >= text.length || i >= text.bytes.length) {
            throw new IndexOutOfBoundsException("no such byte");
        }
        return text.bytes[i];
    }

    // ---- changes (each can be undone, the latest one first)

    public int seek(int p) throws IllegalStateException, IndexOutOfBoundsException, IllegalArgumentException {
        needPupil(p);
        if (!now.pupils.isFree(p)) {
            throw new IllegalArgumentException("the pupil has a mate");
        }
        keepForUndo();
        now.search.begin(p);
        return Integer.bitCount(now.pupils.allowedSet(p));
    }

    public int step() throws IllegalStateException, IllegalArgumentException {
        needGoingSearch();
        keepForUndo();
        return now.advance();
    }

    public int run() throws IllegalStateException, IllegalArgumentException {
        needGoingSearch();
        keepForUndo();
        return now.runOut();
    }

    public int fill() throws IllegalStateException {
        needText();
        keepForUndo();
        for (int p = 0; p < now.pupils.number; p++) {
            if (now.pupils.isFree(p)) {
                now.search.begin(p);
                now.runOut();
            }
        }
        now.search.end();
        return now.pupils.pairCount();
    }

    public int pair(int a, int b) throws IllegalStateException, IndexOutOfBoundsException, IllegalArgumentException {
        needPupils(a, b);
        if (obstacle(a, b) != 0) {
            throw new IllegalArgumentException("the pupils cannot be paired");
        }
        keepForUndo();
        now.search.end();
        now.pupils.join(a, b);
        return now.pupils.pairCount();
    }

    public int part(int p) throws IllegalStateException, IndexOutOfBoundsException, IllegalArgumentException {
        needPupil(p);
        if (now.pupils.isFree(p)) {
            throw new IllegalArgumentException("the pupil is free");
        }
        keepForUndo();
        now.search.end();
        int mate = now.pupils.mateOf(p);
        now.pupils.unjoin(p);
        now.pairsLost++;
        return mate;
    }

    public int flip(int p) throws IllegalStateException, IndexOutOfBoundsException, IllegalArgumentException {
        needPupil(p);
        if (now.search.toldWayLength(p) == 0) {
            throw new IllegalArgumentException("the pupil has no way");
        }
        keepForUndo();
        now.search.end();
        now.pupils.turn(now.search.ways, p);
        return now.pupils.mateOf(now.search.root);
    }

    public int befriend(int a, int b, boolean on)
            throws IllegalStateException, IndexOutOfBoundsException, IllegalArgumentException {
        needPupils(a, b);
        if (a == b) {
            throw new IllegalArgumentException("a pupil is no friend of itself");
        }
        keepForUndo();
        now.search.end();
        now.pupils.setFriends(a, b, on);
        now.pairsLost += now.pupils.partForbidden();
        return now.pupils.friendships();
    }

    public int setKind(int p, int kind)
            throws IllegalStateException, IndexOutOfBoundsException, IllegalArgumentException {
        needPupil(p);
        needRange(kind, 1);
        keepForUndo();
        now.search.end();
        int before = now.pupils.kindOf(p);
        now.pupils.turnKind(p, kind);
        now.pairsLost += now.pupils.partForbidden();
        return before;
    }

    public int setRule(int rule) throws IllegalStateException, IllegalArgumentException {
        needText();
        needRange(rule, 2);
        keepForUndo();
        now.search.end();
        int before = now.pupils.rule;
        now.pupils.rule = rule;
        now.pairsLost += now.pupils.partForbidden();
        return before;
    }

    public int undo() throws IllegalStateException {
        if (earlierCount == 0) {
            throw new IllegalStateException("there is no change to undo");
        }
        earlierEnd = earlierEnd > 0 ? earlierEnd - 1 : MAX_UNDO - 1;
        earlierCount--;
        now.copyFrom(stateAt(earlier, earlierEnd));
        return earlierCount;
    }

    public int undoable() {
        return earlierCount;
    }

    public int save(int slot) throws IllegalStateException, IndexOutOfBoundsException {
        needText();
        needSlot(slot);
        stateAt(saved, slot).copyFrom(now);
        savedSlots |= bit(slot);
        return now.pupils.pairCount();
    }

    public int restore(int slot) throws IndexOutOfBoundsException, IllegalStateException {
        needSlot(slot);
        if (!has(savedSlots, slot)) {
            throw new IllegalStateException("nothing is saved there");
        }
        now.copyFrom(stateAt(saved, slot));
        earlierCount = 0;
        return now.pupils.pairCount();
    }

    // ---- what calls need

    private void needText() {
        if (!loaded) {
            throw new IllegalStateException("no text was loaded");
        }
    }

    private void needPupil(int p) {
        needText();
        if (p < 0 || p >= now.pupils.number) {
            throw new IndexOutOfBoundsException("no such pupil");
        }
    }

    private void needPupils(int a, int b) {
        needPupil(a);
        needPupil(b);
    }

    private void needRange(int what, int greatest) {
        if (what < 0 || what > greatest) {
            throw new IllegalArgumentException("out of range");
        }
    }

    private void needSet(int set) {
        if ((set & ~now.pupils.everybody()) != 0) {
            throw new IllegalArgumentException("a bit of no pupil");
        }
    }

    private void needSlot(int slot) {
        if (slot < 0 || slot >= SLOTS) {
            throw new IndexOutOfBoundsException("no such slot");
        }
    }

    private void needGoingSearch() {
        needText();
        if (now.search.status != GOES_ON) {
            throw new IllegalArgumentException("no search goes on");
        }
    }

    // ---- states that are kept

    private void keepForUndo() {
        stateAt(earlier, earlierEnd).copyFrom(now);
        earlierEnd = earlierEnd + 1 < MAX_UNDO ? earlierEnd + 1 : 0;
        earlierCount = Math.min(earlierCount + 1, MAX_UNDO);
    }

    /** A state of a row; the trial, that nobody keeps, where the row has none. */
    private State stateAt(State[] row, int i) {
        State state = i >= 0 && i < row.length ? row[i] : null;
        return state != null ? state : trial;
    }

    private MostTable tableNow() {
        table.prepare(now.pupils, now.pupils.rule);
        return table;
    }

    // ---- sets as bits, and rows of numbers

    private static int bit(int p) {
        return p >= 0 ? 1 << p : 0;
    }

    private static boolean has(int set, int p) {
        return p >= 0 && (set >> p & 1) != 0;
    }

    private static int smallestOf(int set) {
        return Integer.bitCount((set & -set) - 1);
    }

    private static boolean isSmallest(int set, int p) {
        return has(set, p) && (set & (bit(p) - 1)) == 0;
    }

    private static int at(int[] row, int i) {
        return i >= 0 && i < row.length ? row[i] : NONE;
    }

    private static void put(int[] row, int i, int value) {
        if (i >= 0 && i < row.length) {
            row[i] = value;
        }
    }

    private static void fillRow(int[] row, int value) {
        for (int i = 0; i < row.length; i++) {
            row[i] = value;
        }
    }

    private static void copyRow(int[] from, int[] to) {
        System.arraycopy(from, 0, to, 0, Math.min(from.length, to.length));
    }

    /** The pupils, their kinds, friends and mates. */
    private static final class Pupils {
        int number;
        int rule;
        int kinds;
        final int[] friendSets = new int[MAX_PUPILS];
        final int[] mates = new int[MAX_PUPILS];

        void clear() {
            number = 0;
            rule = 0;
            kinds = 0;
            fillRow(friendSets, 0);
            fillRow(mates, NONE);
        }

        void copyFrom(Pupils other) {
            number = other.number;
            rule = other.rule;
            kinds = other.kinds;
            copyRow(other.friendSets, friendSets);
            copyRow(other.mates, mates);
        }

        int everybody() {
            return bit(number) - 1;
        }

        int kindOf(int p) {
            return has(kinds, p) ? 1 : 0;
        }

        void turnKind(int p, int kind) {
            kinds = kind == 1 ? kinds | bit(p) : kinds & ~bit(p);
        }

        int friendSet(int p) {
            return p >= 0 && p < friendSets.length ? friendSets[p] : 0;
        }

        void setFriends(int a, int b, boolean on) {
            put(friendSets, a, on ? friendSet(a) | bit(b) : friendSet(a) & ~bit(b));
            put(friendSets, b, on ? friendSet(b) | bit(a) : friendSet(b) & ~bit(a));
        }

        boolean ruleAllows(int a, int b) {
            return rule == 0 || (rule == 1) == (kindOf(a) != kindOf(b));
        }

        int allowedSet(int p) {
            return allowedSetBy(rule, p);
        }

        int allowedSetBy(int someRule, int p) {
            int sameKind = has(kinds, p) ? kinds : ~kinds;
            if (someRule == 0) {
                return friendSet(p);
            }
            return friendSet(p) & (someRule == 1 ? ~sameKind : sameKind);
        }

        int friendships() {
            int ends = 0;
            for (int p = 0; p < number; p++) {
                ends += Integer.bitCount(friendSet(p));
            }
            return ends / 2;
        }

        int allowedFriendships() {
            int ends = 0;
            for (int p = 0; p < number; p++) {
                ends += Integer.bitCount(allowedSet(p));
            }
            return ends / 2;
        }

        int mateOf(int p) {
            return p >= 0 && p < mates.length ? mates[p] : NONE;
        }

        boolean isFree(int p) {
            return mateOf(p) == NONE;
        }

        int pairCount() {
            int ends = 0;
            for (int p = 0; p < number; p++) {
                ends += isFree(p) ? 0 : 1;
            }
            return ends / 2;
        }

        void join(int a, int b) {
            put(mates, a, b);
            put(mates, b, a);
        }

        void unjoin(int p) {
            put(mates, mateOf(p), NONE);
            put(mates, p, NONE);
        }

        /** Parts the pairs that are no friends any more, or that RULE does not allow; tells how many. */
        int partForbidden() {
            int parted = 0;
            for (int p = 0; p < number; p++) {
                int mate = mateOf(p);
                if (mate != NONE && !has(allowedSet(p), mate)) {
                    unjoin(p);
                    parted++;
                }
            }
            return parted;
        }

        /** Turns the pairs along the way of p, so that p is free. */
        void turn(Ways ways, int p) {
            put(mates, p, NONE);
            int length = ways.lengthOf(p);
            for (int i = 1; i + 1 < length; i += 2) {
                join(ways.pupilAt(p, i), ways.pupilAt(p, i + 1));
            }
        }
    }

    /** The WAYs of the outer pupils. They stay what they are while a search goes on, so each is written down once. */
    private static final class Ways {
        final int[] pupils = new int[MAX_PUPILS * MAX_PUPILS];
        final int[] lengths = new int[MAX_PUPILS];

        void clear() {
            fillRow(lengths, 0);
        }

        void copyFrom(Ways other) {
            copyRow(other.pupils, pupils);
            copyRow(other.lengths, lengths);
        }

        int lengthOf(int p) {
            return p >= 0 && p < lengths.length ? lengths[p] : 0;
        }

        int pupilAt(int p, int i) {
            return i >= 0 && i < lengthOf(p) ? at(pupils, p * MAX_PUPILS + i) : NONE;
        }

        void add(int p, int q) {
            int length = lengthOf(p);
            if (length < MAX_PUPILS) {
                put(pupils, p * MAX_PUPILS + length, q);
                put(lengths, p, length + 1);
            }
        }

        void addWayOf(int p, int other) {
            int length = lengthOf(other);
            for (int i = 0; i < length; i++) {
                add(p, pupilAt(other, i));
            }
        }

        /** Adds the way of another pupil from its begin up to p, in reverse order. */
        void addBack(int p, int other) {
            boolean isReached = false;
            for (int i = lengthOf(other) - 1; i >= 0; i--) {
                isReached = isReached || pupilAt(other, i) == p;
                if (isReached) {
                    add(p, pupilAt(other, i));
                }
            }
        }
    }

    /** A search; its status is 0 if there is none. */
    private static final class Search {
        int status;
        int root;
        int steps;
        int blossomsMade;
        int outer;
        int inner;
        int queueBegin;
        int queueEnd;
        int askedFrom;
        final int[] queue = new int[MAX_PUPILS];
        final int[] bases = new int[MAX_PUPILS];
        final int[] links = new int[MAX_PUPILS];
        final int[] nearEnds = new int[MAX_PUPILS];
        final int[] farEnds = new int[MAX_PUPILS];
        final Ways ways = new Ways();

        void begin(int p) {
            status = GOES_ON;
            root = p;
            steps = 0;
            blossomsMade = 0;
            outer = 0;
            inner = 0;
            queueBegin = 0;
            queueEnd = 0;
            askedFrom = 0;
            for (int q = 0; q < MAX_PUPILS; q++) {
                put(bases, q, q);
            }
            fillRow(links, NONE);
            fillRow(nearEnds, NONE);
            fillRow(farEnds, NONE);
            ways.clear();
            becomeOuter(p);
            ways.add(p, p);
        }

        void end() {
            status = 0;
        }

        void copyFrom(Search other) {
            status = other.status;
            root = other.root;
            steps = other.steps;
            blossomsMade = other.blossomsMade;
            outer = other.outer;
            inner = other.inner;
            queueBegin = other.queueBegin;
            queueEnd = other.queueEnd;
            askedFrom = other.askedFrom;
            copyRow(other.queue, queue);
            copyRow(other.bases, bases);
            copyRow(other.links, links);
            copyRow(other.nearEnds, nearEnds);
            copyRow(other.farEnds, farEnds);
            ways.copyFrom(other.ways);
        }

        boolean isTold() {
            return status != 0;
        }

        int labelOf(int p) {
            return has(outer, p) ? 1 : has(inner, p) ? 2 : 0;
        }

        int baseOf(int p) {
            return p >= 0 && p < bases.length ? bases[p] : NONE;
        }

        int groupWithBase(int b) {
            int group = 0;
            for (int q = 0; q < MAX_PUPILS; q++) {
                if (baseOf(q) == b) {
                    group |= bit(q);
                }
            }
            return group;
        }

        int queueLength() {
            return queueEnd - queueBegin;
        }

        int inQueue(int i) {
            return i >= 0 && i < queueLength() ? at(queue, queueBegin + i) : NONE;
        }

        /** The length of the way of p; 0 behind a search that has found, which has turned the pairs of the ways. */
        int toldWayLength(int p) {
            return status == GOES_ON || status == FAILED ? ways.lengthOf(p) : 0;
        }

        /** The friend for which the first pupil of the queue is asked next, NONE if it has none left. */
        int askedNext(Pupils pupils) {
            int allowed = pupils.allowedSet(inQueue(0));
            for (int w = askedFrom; w < MAX_PUPILS; w++) {
                if (has(allowed, w)) {
                    return w;
                }
            }
            return NONE;
        }

        /** Makes a step and tells what it was, as step() does. */
        int advance(Pupils pupils) {
            int v = inQueue(0);
            int w = askedNext(pupils);
            steps++;
            if (w == NONE) {
                return leaveQueue();
            }
            askedFrom = w + 1;
            if (has(inner, w) || baseOf(v) == baseOf(w)) {
                return 0;
            }
            if (has(outer, w)) {
                makeBlossom(pupils, v, w);
                return 2;
            }
            if (pupils.isFree(w)) {
                pupils.turn(ways, v);
                pupils.join(v, w);
                status = FOUND;
                return 3;
            }
            grow(v, w, pupils.mateOf(w));
            return 1;
        }

        private int leaveQueue() {
            queueBegin++;
            askedFrom = 0;
            if (queueLength() > 0) {
                return 5;
            }
            status = FAILED;
            return 4;
        }

        private void becomeOuter(int p) {
            outer |= bit(p);
            inner &= ~bit(p);
            put(queue, queueEnd, p);
            queueEnd++;
        }

        private void grow(int v, int w, int x) {
            inner |= bit(w);
            put(links, w, v);
            becomeOuter(x);
            ways.add(x, x);
            ways.add(x, w);
            ways.addWayOf(x, v);
        }

        private void makeBlossom(Pupils pupils, int v, int w) {
            blossomsMade++;
            int meeting = meetingBase(pupils, v, w);
            int mates = bridgeMates(pupils, v, w, meeting) | bridgeMates(pupils, w, v, meeting);
            int members = rowMembers(pupils, v, meeting) | rowMembers(pupils, w, meeting) | mates;
            for (int p = 0; p < MAX_PUPILS; p++) {
                if (has(members, p)) {
                    put(bases, p, meeting);
                }
                if (has(mates, p)) {
                    becomeOuter(p);
                    ways.addBack(p, at(nearEnds, p));
                    ways.addWayOf(p, at(farEnds, p));
                }
            }
        }

        /** The base of the group above the one with the base b. */
        private int baseAbove(Pupils pupils, int b) {
            return baseOf(at(links, pupils.mateOf(b)));
        }

        /** The base of the first group in the row of v that is in the row of w, too. */
        private int meetingBase(Pupils pupils, int v, int w) {
            int rowOfW = 0;
            int b = baseOf(w);
            for (int i = 0; i < MAX_PUPILS && b != NONE; i++) {
                rowOfW |= bit(b);
                b = baseAbove(pupils, b);
            }
            b = baseOf(v);
            for (int i = 0; i < MAX_PUPILS && b != NONE && !has(rowOfW, b); i++) {
                b = baseAbove(pupils, b);
            }
            return b;
        }

        /** Gives bridges to the mates of the bases in the row of near below the meeting; answers these mates. */
        private int bridgeMates(Pupils pupils, int near, int far, int meeting) {
            int mates = 0;
            int b = baseOf(near);
            for (int i = 0; i < MAX_PUPILS && b != NONE && b != meeting; i++) {
                int mate = pupils.mateOf(b);
                mates |= bit(mate);
                put(nearEnds, mate, near);
                put(farEnds, mate, far);
                b = baseAbove(pupils, b);
            }
            return mates;
        }

        /** The pupils of the groups in the row of v up to the meeting. */
        private int rowMembers(Pupils pupils, int v, int meeting) {
            int members = groupWithBase(meeting);
            int b = baseOf(v);
            for (int i = 0; i < MAX_PUPILS && b != NONE && b != meeting; i++) {
                members |= groupWithBase(b);
                b = baseAbove(pupils, b);
            }
            return members;
        }
    }

    /** All that undo and restore bring back. */
    private static final class State {
        // far more than 14 pupils can ask
        private static final int STEPS_BOUND = 1000;

        final Pupils pupils = new Pupils();
        final Search search = new Search();
        int pairsMade;
        int searchesFailed;
        int blossomsMade;
        int pairsLost;

        void startWith(Pupils others) {
            pupils.copyFrom(others);
            search.end();
            pairsMade = 0;
            searchesFailed = 0;
            blossomsMade = 0;
            pairsLost = 0;
        }

        void copyFrom(State other) {
            pupils.copyFrom(other.pupils);
            search.copyFrom(other.search);
            pairsMade = other.pairsMade;
            searchesFailed = other.searchesFailed;
            blossomsMade = other.blossomsMade;
            pairsLost = other.pairsLost;
        }

        /** Begins a search from a pupil, if it is free there, and has no search otherwise. */
        void startFrom(Pupils others, int p) {
            startWith(others);
            if (pupils.isFree(p)) {
                search.begin(p);
            }
        }

        int advance() {
            int blossomsBefore = search.blossomsMade;
            int happened = search.advance(pupils);
            addToSums(search.blossomsMade - blossomsBefore);
            return happened;
        }

        int runOut() {
            int blossomsBefore = search.blossomsMade;
            int stepsBefore = search.steps;
            for (int i = 0; i < STEPS_BOUND && search.status == GOES_ON; i++) {
                search.advance(pupils);
            }
            addToSums(search.blossomsMade - blossomsBefore);
            return search.steps - stepsBefore;
        }

        private void addToSums(int blossoms) {
            blossomsMade += blossoms;
            pairsMade += search.status == FOUND ? 1 : 0;
            searchesFailed += search.status == FAILED ? 1 : 0;
        }
    }

    /** How many pairs a set of pupils can have at most, and in how many pairings, for the friends that RULE allows. */
    private static final class MostTable {
        // A value is PAIR times the most pairs, plus the pairings that have them: of 14 pupils never a million.
        private static final int PAIR = 1 << 20;
        // Values of sets with the pupils 0 or 1 are asked for seldom, so that only those of other sets are kept.
        private static final int UNKEPT = 2;

        int all;
        final int[] rows = new int[MAX_PUPILS];
        final int[] values = new int[1 << (MAX_PUPILS - UNKEPT)];
        final int[] stamps = new int[1 << (MAX_PUPILS - UNKEPT)];
        int stamp = 1;

        /** Takes the friends that a RULE allows; what was kept for others is not valid any more then. */
        void prepare(Pupils pupils, int rule) {
            boolean isOther = false;
            all = pupils.everybody();
            for (int p = 0; p < MAX_PUPILS; p++) {
                int row = pupils.allowedSetBy(rule, p);
                isOther = isOther || rowOf(p) != row;
                put(rows, p, row);
            }
            if (isOther) {
                stamp++;
            }
        }

        /** MOST. */
        int pairs() {
            return mostIn(all);
        }

        /** The pupils that stay free with MOST pairs. */
        int freePupils() {
            return Integer.bitCount(all) - 2 * pairs();
        }

        /** MOST without two pupils, perhaps the same. */
        int pairsBut(int a, int b) {
            return mostIn(but(a, b));
        }

        private int but(int a, int b) {
            return all & ~bit(a) & ~bit(b);
        }

        int mostIn(int set) {
            return valueOf(this, set, 0) / PAIR;
        }

        int pairingsIn(int set) {
            return valueOf(this, set, 0) % PAIR;
        }

        private static int valueOf(MostTable table, int set, int depth) {
            if (set == 0 || depth > MAX_PUPILS) {
                return 1;
            }
            int place = (set & (1 << UNKEPT) - 1) == 0 ? set >> UNKEPT : NONE;
            if (at(table.stamps, place) == table.stamp) {
                return at(table.values, place);
            }
            int p = smallestOf(set);
            int others = set & ~bit(p);
            int mates = others & table.rowOf(p);
            int value = valueOf(table, others, depth + 1);
            for (int q = p + 1; q < MAX_PUPILS; q++) {
                if (has(mates, q)) {
                    value = joined(value, valueOf(table, others & ~bit(q), depth + 1) + PAIR);
                }
            }
            put(table.values, place, value);
            put(table.stamps, place, table.stamp);
            return value;
        }

        /** The value of pairings of two sorts together. */
        private static int joined(int one, int other) {
            if (one / PAIR == other / PAIR) {
                return one + other % PAIR;
            }
            return one > other ? one : other;
        }

        private int rowOf(int p) {
            return p >= 0 && p < rows.length ? rows[p] : 0;
        }

        int looseSet() {
            int pairs = pairs();
            int loose = 0;
            for (int p = 0; p < MAX_PUPILS; p++) {
                if (has(all, p) && pairsBut(p, p) == pairs) {
                    loose |= bit(p);
                }
            }
            return loose;
        }

        int barrierOf(int loose) {
            int barrier = 0;
            for (int p = 0; p < MAX_PUPILS; p++) {
                if (!has(loose, p) && (rowOf(p) & loose) != 0) {
                    barrier |= bit(p);
                }
            }
            return barrier;
        }

        boolean isUsed(int a, int b) {
            return has(rowOf(a), b) && pairsBut(a, b) + 1 == pairs();
        }

        boolean isNeeded(int a, int b) {
            return isUsed(a, b) && pairingsIn(but(a, b)) == pairingsIn(all);
        }

        int oddsWithout(int set) {
            return partsOf(all & ~set, true);
        }

        /** Whether a set proves MOST, with which so many pupils stay free. */
        boolean proves(int set, int free) {
            return oddsWithout(set) - Integer.bitCount(set) == free;
        }

        /** The mate of the smallest pupil of the set in the FIRST pairing of the set. */
        int firstMateIn(int set, int p) {
            int others = set & ~bit(p);
            int pairs = mostIn(set);
            for (int q = 0; q < MAX_PUPILS; q++) {
                if (has(others & rowOf(p), q) && mostIn(others & ~bit(q)) + 1 == pairs) {
                    return q;
                }
            }
            return NONE;
        }

        /** How many parts a set has, or how many of them are odd. */
        int partsOf(int set, boolean onlyOdd) {
            int parts = 0;
            int left = set;
            for (int i = 0; i < MAX_PUPILS && left != 0; i++) {
                int part = firstPart(left);
                left &= ~part;
                if (!onlyOdd || Integer.bitCount(part) % 2 == 1) {
                    parts++;
                }
            }
            return parts;
        }

        /** The pupils of a set to whom its smallest one comes from friend to friend within the set. */
        int firstPart(int set) {
            int part = set & -set;
            int fresh = part;
            for (int i = 0; i < MAX_PUPILS && fresh != 0; i++) {
                int near = rowOf(smallestOf(fresh)) & set & ~part;
                fresh = (fresh & (fresh - 1)) | near;
                part |= near;
            }
            return part;
        }
    }

    /** The text that was written last. */
    private static final class Text {
        final byte[] bytes = new byte[64];
        int length;

        void clear() {
            length = 0;
        }

        void add(char sign) {
            if (length >= 0 && length < bytes.length) {
                bytes[length] = (byte) sign;
                length++;
            }
        }

        void addNumber(int number) {
            if (number >= 10) {
                add((char) ('0' + number / 10));
            }
            add((char) ('0' + number % 10));
        }

        void addSet(int set) {
            for (int p = 0; p < MAX_PUPILS; p++) {
                if (has(set, p)) {
                    if (!isSmallest(set, p)) {
                        add('+');
                    }
                    addNumber(p);
                }
            }
        }

        /** Adds a sign if there is something that it separates from what comes. */
        void separate(char sign) {
            if (length > 0) {
                add(sign);
            }
        }

        int finish() {
            if (length == 0) {
                add('.');
            }
            return length;
        }
    }

    /** The input buffer, and the reading of a text in it. */
    private static final class Parser {
        private static final int APPENDED = 20;
        private static final int LONGEST_WORD = 6;
        private static final int LONGEST_NUMBER = 2;

        private static final int BAD = 0;
        private static final int WORD = 1;
        private static final int NUMBER = 2;
        private static final int SEMICOLON = 3;
        private static final int END = 4;

        private static final int KIND_LINE = 0;
        private static final int FRIEND_LINE = 1;
        private static final int RING_LINE = 2;
        private static final int PAIR_LINE = 3;

        final byte[] buffer = new byte[MAX_BYTES];
        final Pupils draft = new Pupils();
        int length;
        int error;
        int errorAt = NONE;
        private int end;
        private int position;
        private int token;
        private int tokenStart;
        private int value;
        private int firstOfLine;
        private int latestOfLine;
        private int setOfLine;

        boolean hasRoom() {
            return length + APPENDED <= MAX_BYTES;
        }

        void appendWord(int word) {
            for (int shift = 24; shift >= 0; shift -= 8) {
                if (length >= 0 && length < buffer.length) {
                    buffer[length] = (byte) (word >> shift);
                    length++;
                }
            }
        }

        /** Parses the first n bytes into the draft and empties the buffer; tells whether there is no error. */
        boolean parse(int n) {
            end = n;
            position = 0;
            draft.clear();
            error = headError();
            for (int i = 0; i < MAX_BYTES && error == 0 && token == SEMICOLON; i++) {
                error = lineError();
            }
            if (error == 0 && token != END) {
                error = 1;
            }
            errorAt = error == 0 ? NONE : tokenStart;
            draft.partForbidden();
            length = 0;
            return error == 0;
        }

        /** Reads up to the first token behind RULE. */
        private int headError() {
            readToken();
            if (!isWord("class")) {
                return 1;
            }
            readToken();
            int code = numberError(1, MAX_PUPILS);
            if (code != 0) {
                return code;
            }
            draft.number = value;
            readToken();
            code = numberError(0, 2);
            draft.rule = value;
            if (code == 0) {
                readToken();
            }
            return code;
        }

        private int lineError() {
            readToken();
            int line = lineSort();
            if (line == NONE) {
                return 1;
            }
            int least = line == KIND_LINE ? 1 : line == RING_LINE ? 3 : 2;
            int greatest = line == PAIR_LINE ? 2 : MAX_BYTES;
            int pupils = 0;
            setOfLine = 0;
            readToken();
            for (int i = 0; i < greatest && token == NUMBER; i++) {
                int code = numberError(0, draft.number - 1);
                if (code == 0) {
                    code = pupilError(line, i);
                }
                if (code != 0) {
                    return code;
                }
                takePupil(line, i);
                pupils++;
                readToken();
            }
            if (pupils < least) {
                return 1;
            }
            if (line == RING_LINE) {
                draft.setFriends(latestOfLine, firstOfLine, true);
            }
            return 0;
        }

        private int lineSort() {
            if (isWord("kind")) {
                return KIND_LINE;
            }
            if (isWord("friend")) {
                return FRIEND_LINE;
            }
            if (isWord("ring")) {
                return RING_LINE;
            }
            return isWord("pair") ? PAIR_LINE : NONE;
        }

        /** The error 3, 4 or 5 of the pupil number i of a line. */
        private int pupilError(int line, int i) {
            boolean isFirstAgain = (line == FRIEND_LINE || line == PAIR_LINE) && i > 0 && value == firstOfLine;
            boolean isInRing = line == RING_LINE && has(setOfLine, value);
            if (isFirstAgain || isInRing) {
                return 3;
            }
            if (line != PAIR_LINE) {
                return 0;
            }
            if (!draft.isFree(value)) {
                return 4;
            }
            return i > 0 && !has(draft.allowedSet(firstOfLine), value) ? 5 : 0;
        }

        private void takePupil(int line, int i) {
            if (line == KIND_LINE) {
                draft.turnKind(value, 1);
            } else if (line == FRIEND_LINE && i > 0) {
                draft.setFriends(firstOfLine, value, true);
            } else if (line == RING_LINE && i > 0) {
                draft.setFriends(latestOfLine, value, true);
            } else if (line == PAIR_LINE && i > 0) {
                draft.join(firstOfLine, value);
            }
            if (i == 0) {
                firstOfLine = value;
            }
            latestOfLine = value;
            setOfLine |= bit(value);
        }

        private int numberError(int least, int greatest) {
            if (token != NUMBER) {
                return 1;
            }
            return value < least || value > greatest ? 2 : 0;
        }

        private void readToken() {
            while (position < end && byteAt(position) == ' ') {
                position++;
            }
            tokenStart = position;
            if (position >= end) {
                token = END;
            } else if (isBetween(position, 'a', 'z')) {
                passRun('a', 'z');
                token = position - tokenStart <= LONGEST_WORD ? WORD : BAD;
            } else if (isBetween(position, '0', '9')) {
                passRun('0', '9');
                token = position - tokenStart <= LONGEST_NUMBER ? NUMBER : BAD;
                value = token == NUMBER ? numberOfToken() : 0;
            } else {
                token = byteAt(position) == ';' ? SEMICOLON : BAD;
                position++;
            }
        }

        private void passRun(char from, char to) {
            while (position < end && isBetween(position, from, to)) {
                position++;
            }
        }

        private int numberOfToken() {
            int number = 0;
            for (int i = tokenStart; i < position; i++) {
                number = 10 * number + byteAt(i) - '0';
            }
            return number;
        }

        private boolean isWord(String word) {
            if (token != WORD || position - tokenStart != word.length()) {
                return false;
            }
            for (int i = 0; i < word.length(); i++) {
                if (byteAt(tokenStart + i) != word.charAt(i)) {
                    return false;
                }
            }
            return true;
        }

        private boolean isBetween(int i, char from, char to) {
            return byteAt(i) >= from && byteAt(i) <= to;
        }

        private int byteAt(int i) {
            return i >= 0 && i < buffer.length ? buffer[i] : 0;
        }
    }
}

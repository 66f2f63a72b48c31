import java.lang.reflect.InvocationTargetException;
import java.lang.reflect.Method;
import java.lang.reflect.Modifier;
import java.util.ArrayList;
import java.util.Comparator;
import java.util.List;

/** Random runs of calls, each asked of the program and of the Model: all answers and exceptions are the same. */
public final class RandomRunsTest {
    private static final int RUNS = Integer.getInteger("runs", 1500);
    private static final List<String> CHANGES = List.of("seek", "step", "run", "fill", "pair", "part", "flip",
        "befriend", "setKind", "setRule", "undo", "save", "restore");
    private static final List<String> OF_SEARCHES = List.of("search", "label", "group", "base", "link", "bridge",
        "queueAt", "next", "wayLength", "wayAt", "blossoms", "writeGroups", "writeWay", "textByte", "wouldEnd",
        "stepsTo", "count", "pupil", "writePairs");
    private static final List<String> INPUTS = List.of("append", "load");

    private final Dice random;
    private final PupilPairs program = new PupilPairs();
    private final Model model = new Model();
    private final StringBuilder log = new StringBuilder();
    private int pupils = 5;
    /** Runs that ask of searches alone have more friends among many pupils: the Model need not list pairings there. */
    private final boolean onlySearches;

    /** Numbers that look like chance and are the same each time. */
    private static final class Dice {
        private long state;

        Dice(long seed) {
            state = seed * 0x9e3779b97f4a7c15L + 1;
            next();
        }

        int next() {
            state = state * 6364136223846793005L + 1442695040888963407L;
            long mixed = (state ^ state >>> 29) * 0xbf58476d1ce4e5b9L;
            return (int) (mixed >>> 32);
        }

        int nextInt(int above) {
            return Math.floorMod(next(), above);
        }

        boolean nextBoolean() {
            return nextInt(2) == 0;
        }

        double nextDouble() {
            return nextInt(1 << 20) / (double) (1 << 20);
        }
    }

    private RandomRunsTest(long seed) {
        random = new Dice(seed);
        onlySearches = random.nextInt(3) == 0;
    }

    public static void main(String[] args) throws Exception {
        List<Method> changes = new ArrayList<>();
        List<Method> asks = new ArrayList<>();
        for (Method m : faceMethods()) {
            if (CHANGES.contains(m.getName())) {
                changes.add(m);
            } else if (!INPUTS.contains(m.getName())) {
                asks.add(m);
            }
        }
        if (changes.size() != 13 || asks.size() != 49) {
            System.out.println("the face has " + changes.size() + " changes and " + asks.size() + " other calls");
            System.exit(1);
        }
        for (int run = 0; run < RUNS; run++) {
            new RandomRunsTest(run).play(changes, asks);
        }
    }

    private static List<Method> faceMethods() {
        List<Method> face = new ArrayList<>();
        for (Method m : PupilPairs.class.getDeclaredMethods()) {
            if (Modifier.isPublic(m.getModifiers())) {
                face.add(m);
            }
        }
        face.sort(Comparator.comparing(Method::getName));
        return face;
    }

    private void play(List<Method> changes, List<Method> allAsks) throws Exception {
        List<Method> asks = new ArrayList<>(allAsks);
        if (onlySearches) {
            asks.removeIf(m -> !OF_SEARCHES.contains(m.getName()));
        }
        if (random.nextInt(10) == 0) {
            ask(pick(asks));
            ask(pick(changes));
        }
        load();
        int changeShare = 1 + random.nextInt(6);
        for (int i = 0; i < 330; i++) {
            if (random.nextInt(120) == 0) {
                load();
            } else if (random.nextInt(10) < changeShare) {
                change(changes);
                if (onlySearches) {
                    askAllOfSearch();
                }
            } else {
                ask(pick(asks));
            }
        }
    }

    private Method pick(List<Method> row) {
        return row.get(random.nextInt(row.size()));
    }

    /** A search that goes on makes steps mostly, or few searches would come far. */
    private void change(List<Method> changes) throws Exception {
        int status = model.isLoaded() ? model.search(0) : 0;
        int dice = random.nextInt(20);
        if (status == 1 && dice < 15) {
            ask(named(changes, "step"));
        } else if (status == 3 && dice < 5 || dice < 1) {
            ask(named(changes, "flip"));
        } else if (model.isLoaded() && status != 1 && dice < 12) {
            int p = random.nextInt(pupils);
            for (int i = 0; i < pupils && model.pupil(p, 3) != -1; i++) {
                p = (p + 1) % pupils;
            }
            ask(named(changes, "seek"), p);
        } else {
            ask(pick(changes));
        }
    }

    /** All that is told of the search. These are more calls of one object than 512; the program does not count. */
    private void askAllOfSearch() throws Exception {
        for (int what = 0; what <= 10; what++) {
            ask("count", what);
        }
        for (int what = 0; what <= 7; what++) {
            ask("search", what);
        }
        for (int p = 0; p < pupils; p++) {
            for (String name : List.of("label", "group", "base", "link", "queueAt", "wayLength", "writeWay", "wouldEnd",
                    "stepsTo")) {
                ask(name, p);
            }
            for (boolean far : new boolean[] {false, true}) {
                ask(PupilPairs.class.getMethod("bridge", int.class, boolean.class), p, far);
            }
            for (int i = 0; i < pupils; i++) {
                ask(PupilPairs.class.getMethod("wayAt", int.class, int.class), p, i);
            }
        }
        for (String name : List.of("next", "blossoms", "writeGroups", "writePairs")) {
            ask(PupilPairs.class.getMethod(name));
        }
    }

    private void ask(String name, int argument) throws Exception {
        ask(PupilPairs.class.getMethod(name, int.class), argument);
    }

    private static Method named(List<Method> row, String name) {
        for (Method m : row) {
            if (m.getName().equals(name)) {
                return m;
            }
        }
        throw new AssertionError(name);
    }

    private void load() throws Exception {
        String text = text();
        Method append = PupilPairs.class.getMethod("append", int.class, int.class, int.class, int.class, int.class);
        int[] words = Check.words(text);
        for (int i = 0; i < words.length; i += 5) {
            ask(append, words[i], words[i + 1], words[i + 2], words[i + 3], words[i + 4]);
        }
        int n = random.nextInt(30) == 0 ? random.nextInt(520) - 10 : random.nextInt(30) == 0 ? 0 : text.length();
        ask(PupilPairs.class.getMethod("load", int.class), n);
        ask(PupilPairs.class.getMethod("parseError"));
        ask(PupilPairs.class.getMethod("errorPosition"));
        ask(PupilPairs.class.getMethod("buffered"));
        pupils = Math.max(1, number("count", 0));
    }

    /** What the program answers, or 0 if it throws. */
    private int number(String name, int argument) throws Exception {
        try {
            return (Integer) PupilPairs.class.getMethod(name, int.class).invoke(program, argument);
        } catch (InvocationTargetException thrown) {
            return 0;
        }
    }

    private String text() {
        int n = onlySearches || random.nextInt(3) == 0 ? 10 + random.nextInt(5) : 1 + random.nextInt(9);
        // beyond 10 pupils few friends, or the Model would list pairings for hours
        double share = 0.15 + 0.85 * random.nextDouble();
        if (n > 10) {
            share = (1.5 + (onlySearches ? 2 : 1) * random.nextDouble()) / n;
        }
        int rule = random.nextInt(3) % (1 + random.nextInt(3));
        StringBuilder text = new StringBuilder("class " + n + " " + rule);
        boolean[] kinds = new boolean[n];
        if (random.nextInt(2) == 0) {
            addKinds(text, kinds);
        }
        boolean[][] friends = new boolean[n][n];
        for (int a = 0; a < n; a++) {
            addFriends(text, a, friends, share);
        }
        if (random.nextInt(3) == 0 && n > 2) {
            addRing(text, friends);
        }
        addPairs(text, friends, kinds, rule);
        if (random.nextInt(8) == 0) {
            addKinds(text, kinds);
        }
        return random.nextInt(6) == 0 ? spoilt(text) : text.toString();
    }

    private void addKinds(StringBuilder text, boolean[] kinds) {
        text.append(";kind");
        int last = random.nextInt(kinds.length);
        for (int p = 0; p < kinds.length; p++) {
            if (p == last || random.nextInt(2) == 0) {
                text.append(' ').append(p);
                kinds[p] = true;
            }
        }
    }

    private void addFriends(StringBuilder text, int a, boolean[][] friends, double share) {
        StringBuilder row = new StringBuilder();
        for (int b = a + 1; b < friends.length; b++) {
            if (random.nextDouble() < share) {
                row.append(' ').append(b);
                friends[a][b] = true;
            }
        }
        if (row.length() > 0) {
            text.append(" ; friend ").append(a).append(row);
        }
    }

    private List<Integer> shuffled(int n) {
        List<Integer> order = new ArrayList<>();
        for (int p = 0; p < n; p++) {
            order.add(p);
        }
        for (int i = n - 1; i > 0; i--) {
            java.util.Collections.swap(order, i, random.nextInt(i + 1));
        }
        return order;
    }

    private void addRing(StringBuilder text, boolean[][] friends) {
        int size = 3 + random.nextInt(friends.length - 2);
        List<Integer> ring = shuffled(friends.length).subList(0, size);
        text.append(";ring");
        for (int i = 0; i < size; i++) {
            int p = ring.get(i);
            text.append(random.nextInt(3) == 0 && p < 10 ? " 0" : " ").append(p);
            int q = ring.get((i + 1) % size);
            friends[Math.min(p, q)][Math.max(p, q)] = true;
        }
    }

    private void addPairs(StringBuilder text, boolean[][] friends, boolean[] kinds, int rule) {
        int left = onlySearches ? 7 : random.nextInt(8);
        boolean[] used = new boolean[friends.length];
        for (int p : shuffled(friends.length)) {
            for (int q : shuffled(friends.length)) {
                boolean allowed = rule == 0 || kinds[p] == kinds[q] == (rule == 2);
                boolean free = p != q && !used[p] && !used[q];
                if (free && friends[Math.min(p, q)][Math.max(p, q)] && allowed && left > 0) {
                    text.append(";pair ").append(p).append(' ').append(q);
                    used[p] = true;
                    used[q] = true;
                    left--;
                }
            }
        }
    }

    private String spoilt(StringBuilder text) {
        String signs = " ;0129az-A\u00e9";
        String[] words = {"pair", "kind", "friend", "ring", "class", "pairs", "friends", ";", " 14", " 007", ";pair 0 0",
            ";friend 1 1", ";ring 0 1 0"};
        if (random.nextInt(3) == 0) {
            text.append(";pair ").append(random.nextInt(pupils)).append(' ').append(random.nextInt(pupils));
        }
        int changes = random.nextInt(3);
        for (int i = 0; i < changes; i++) {
            int at = random.nextInt(text.length() + 1);
            int what = random.nextInt(4);
            if (what == 0 && at < text.length()) {
                text.deleteCharAt(at);
            } else if (what == 1) {
                text.insert(at, signs.charAt(random.nextInt(signs.length())));
            } else if (what == 2) {
                text.insert(random.nextBoolean() ? text.length() : at, words[random.nextInt(words.length)]);
            } else {
                text.setLength(at);
            }
        }
        return text.toString();
    }

    private void ask(Method method) throws Exception {
        Class<?>[] types = method.getParameterTypes();
        Object[] arguments = new Object[types.length];
        for (int i = 0; i < types.length; i++) {
            arguments[i] = types[i] == boolean.class ? random.nextInt(3) > 0 : argument(method.getName(), i);
        }
        ask(method, arguments);
    }

    private Object argument(String name, int i) {
        if (random.nextInt(200) == 0) {
            return random.next();
        }
        int above = switch (name) {
            case "count" -> 11;
            case "search" -> 8;
            case "odds", "isProof" -> 1 << pupils;
            case "setRule", "mostBy" -> 3;
            case "save", "restore" -> 2;
            case "textByte" -> 30;
            case "oddSet", "queueAt" -> 6;
            default -> pupils;
        };
        if (i == 1) {
            above = switch (name) {
                case "pupil" -> 4;
                case "setKind" -> 2;
                default -> above;
            };
        }
        return random.nextInt(25) == 0 ? random.nextInt(above + 4) - 2 : random.nextInt(above);
    }

    private void ask(Method method, Object... arguments) throws Exception {
        log.append(method.getName()).append(java.util.Arrays.toString(arguments));
        String due = answer(Model.class.getMethod(method.getName(), method.getParameterTypes()), model, arguments);
        String got = answer(method, program, arguments);
        log.append(" = ").append(got).append('\n');
        if (!got.equals(due)) {
            System.out.println(log + "due is " + due);
            System.exit(1);
        }
    }

    private static String answer(Method method, Object object, Object[] arguments) throws Exception {
        try {
            return String.valueOf(method.invoke(object, arguments));
        } catch (InvocationTargetException thrown) {
            Throwable cause = thrown.getCause();
            if (cause instanceof Error) {
                throw (Error) cause;
            }
            return "throws " + cause.getClass().getName();
        }
    }
}

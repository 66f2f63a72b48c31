import java.util.ArrayDeque;
import java.util.ArrayList;
import java.util.Arrays;
import java.util.Collections;
import java.util.HashMap;
import java.util.List;
import java.util.Map;
import java.util.TreeSet;

/**
 * The document once more, word by word and as slowly as it comes: pairings are listed one by one, groups are sets, ways
 * are built anew each time. RandomRunsTest asks it and the program the same calls.
 */
public final class Model {
    static final int NONE = -1;

    /** What undo and restore bring back. */
    private static final class World {
        int n;
        int rule;
        int[] kind;
        boolean[][] friend;
        int[] mate;
        int made;
        int failed;
        int blossoms;
        int lost;
        Hunt hunt;

        World copy() {
            World w = new World();
            w.n = n;
            w.rule = rule;
            w.kind = kind.clone();
            w.friend = new boolean[n][];
            for (int p = 0; p < n; p++) {
                w.friend[p] = friend[p].clone();
            }
            w.mate = mate.clone();
            w.made = made;
            w.failed = failed;
            w.blossoms = blossoms;
            w.lost = lost;
            w.hunt = hunt == null ? null : hunt.copy();
            return w;
        }

        boolean[][] allowed(int someRule) {
            boolean[][] g = new boolean[n][n];
            for (int a = 0; a < n; a++) {
                for (int b = 0; b < n; b++) {
                    g[a][b] = friend[a][b] && ruleAllows(someRule, a, b);
                }
            }
            return g;
        }

        boolean ruleAllows(int someRule, int a, int b) {
            if (someRule == 1) {
                return kind[a] != kind[b];
            }
            return someRule == 0 || kind[a] == kind[b];
        }

        int pairs() {
            int c = 0;
            for (int p = 0; p < n; p++) {
                if (mate[p] > p) {
                    c++;
                }
            }
            return c;
        }

        void partAll() {
            for (int p = 0; p < n; p++) {
                int q = mate[p];
                if (q > p && (!friend[p][q] || !ruleAllows(rule, p, q))) {
                    mate[p] = NONE;
                    mate[q] = NONE;
                    lost++;
                }
            }
        }
    }

    private static final class Hunt {
        int status = 1;
        int root;
        int steps;
        int blossoms;
        int[] label;
        List<TreeSet<Integer>> groups = new ArrayList<>();
        Map<TreeSet<Integer>, Integer> bases = new HashMap<>();
        int[] link;
        int[] near;
        int[] far;
        List<Integer> queue = new ArrayList<>();
        int asked = -1;

        Hunt(int root, int n) {
            this.root = root;
            label = new int[n];
            label[root] = 1;
            link = new int[n];
            near = new int[n];
            far = new int[n];
            Arrays.fill(link, NONE);
            Arrays.fill(near, NONE);
            Arrays.fill(far, NONE);
            for (int p = 0; p < n; p++) {
                TreeSet<Integer> g = new TreeSet<>(List.of(p));
                groups.add(g);
                bases.put(g, p);
            }
            queue.add(root);
        }

        Hunt copy() {
            Hunt h = new Hunt(root, label.length);
            h.status = status;
            h.steps = steps;
            h.blossoms = blossoms;
            h.label = label.clone();
            h.link = link.clone();
            h.near = near.clone();
            h.far = far.clone();
            h.asked = asked;
            h.queue = new ArrayList<>(queue);
            h.groups = new ArrayList<>();
            h.bases = new HashMap<>();
            for (TreeSet<Integer> g : groups) {
                TreeSet<Integer> c = new TreeSet<>(g);
                h.groups.add(c);
                h.bases.put(c, bases.get(g));
            }
            return h;
        }

        TreeSet<Integer> groupOf(int p) {
            for (TreeSet<Integer> g : groups) {
                if (g.contains(p)) {
                    return g;
                }
            }
            throw new AssertionError("no group");
        }
    }

    private byte[] buffer = new byte[0];
    private World world;
    private int error;
    private int errorAt = NONE;
    private String text = "";
    private final ArrayDeque<World> undos = new ArrayDeque<>();
    private final World[] slots = new World[2];

    // ---- input

    public int append(int a, int b, int c, int d, int e) {
        if (buffer.length + 20 > 500) {
            return NONE;
        }
        int old = buffer.length;
        buffer = Arrays.copyOf(buffer, old + 20);
        int[] words = {a, b, c, d, e};
        for (int i = 0; i < 20; i++) {
            buffer[old + i] = (byte) (words[i / 4] >>> (24 - 8 * (i % 4)));
        }
        return buffer.length;
    }

    public int load(int n) {
        if (n < 0 || n > buffer.length) {
            throw new IndexOutOfBoundsException();
        }
        byte[] bytes = Arrays.copyOf(buffer, n);
        buffer = new byte[0];
        try {
            world = new Reading(bytes).read();
        } catch (BadText bad) {
            error = bad.code;
            errorAt = bad.at;
            throw new IllegalArgumentException();
        }
        error = 0;
        errorAt = NONE;
        undos.clear();
        slots[0] = null;
        slots[1] = null;
        return world.n;
    }

    private static final class BadText extends Exception {
        private static final long serialVersionUID = 1;
        final int code;
        final int at;

        BadText(int code, int at) {
            this.code = code;
            this.at = at;
        }
    }

    private static final class Reading {
        final List<String> tokens = new ArrayList<>();
        final List<Integer> places = new ArrayList<>();
        int next;

        Reading(byte[] bytes) {
            String all = new String(bytes, java.nio.charset.StandardCharsets.ISO_8859_1);
            int i = 0;
            while (i < all.length()) {
                char c = all.charAt(i);
                int j = i + 1;
                if (c >= 'a' && c <= 'z') {
                    while (j < all.length() && all.charAt(j) >= 'a' && all.charAt(j) <= 'z') {
                        j++;
                    }
                } else if (c >= '0' && c <= '9') {
                    while (j < all.length() && all.charAt(j) >= '0' && all.charAt(j) <= '9') {
                        j++;
                    }
                }
                if (c != ' ') {
                    tokens.add(all.substring(i, j));
                    places.add(i);
                }
                i = j;
            }
            tokens.add("");
            places.add(all.length());
        }

        BadText bad(int code) {
            return new BadText(code, places.get(next));
        }

        void word(String w) throws BadText {
            if (!tokens.get(next).equals(w)) {
                throw bad(1);
            }
            next++;
        }

        boolean atNumber() {
            return tokens.get(next).matches("[0-9]{1,2}");
        }

        int number(int low, int high) throws BadText {
            if (!atNumber()) {
                throw bad(1);
            }
            int v = Integer.parseInt(tokens.get(next));
            if (v < low || v > high) {
                throw bad(2);
            }
            return v;
        }

        World read() throws BadText {
            World w = new World();
            word("class");
            w.n = number(1, 14);
            next++;
            w.rule = number(0, 2);
            next++;
            w.kind = new int[w.n];
            w.friend = new boolean[w.n][w.n];
            w.mate = new int[w.n];
            Arrays.fill(w.mate, NONE);
            while (!tokens.get(next).equals("")) {
                word(";");
                line(w);
            }
            w.partAll();
            w.lost = 0;
            return w;
        }

        void line(World w) throws BadText {
            String key = tokens.get(next);
            if (!List.of("kind", "friend", "ring", "pair").contains(key)) {
                throw bad(1);
            }
            next++;
            List<Integer> row = new ArrayList<>();
            int least = key.equals("kind") ? 1 : key.equals("ring") ? 3 : 2;
            while (row.size() < least || atNumber() && !key.equals("pair")) {
                int p = number(0, w.n - 1);
                if (key.equals("ring") && row.contains(p)) {
                    throw bad(3);
                }
                if (!key.equals("kind") && !row.isEmpty() && row.get(0) == p) {
                    throw bad(3);
                }
                if (key.equals("pair")) {
                    if (w.mate[p] != NONE) {
                        throw bad(4);
                    }
                    if (row.size() == 1 && !w.allowed(w.rule)[row.get(0)][p]) {
                        throw bad(5);
                    }
                }
                row.add(p);
                next++;
            }
            for (int i = 0; i < row.size(); i++) {
                int p = row.get(i);
                if (key.equals("kind")) {
                    w.kind[p] = 1;
                }
                int q = key.equals("ring") ? row.get((i + 1) % row.size()) : row.get(0);
                if ((key.equals("friend") || key.equals("ring")) && p != q) {
                    w.friend[p][q] = true;
                    w.friend[q][p] = true;
                }
            }
            if (key.equals("pair")) {
                w.mate[row.get(0)] = row.get(1);
                w.mate[row.get(1)] = row.get(0);
            }
        }
    }

    public int parseError() {
        return error;
    }

    public int errorPosition() {
        return errorAt;
    }

    public int buffered() {
        return buffer.length;
    }

    // ---- pupils and pairs

    boolean isLoaded() {
        return world != null;
    }

    private void loaded() {
        if (world == null) {
            throw new IllegalStateException();
        }
    }

    private void there(int p) {
        loaded();
        if (p < 0 || p >= world.n) {
            throw new IndexOutOfBoundsException();
        }
    }

    private void within(int what, int high) {
        if (what < 0 || what > high) {
            throw new IllegalArgumentException();
        }
    }

    private static int edges(boolean[][] g) {
        int c = 0;
        for (boolean[] row : g) {
            c += trues(row);
        }
        return c / 2;
    }

    private static int trues(boolean[] row) {
        int c = 0;
        for (boolean on : row) {
            c += on ? 1 : 0;
        }
        return c;
    }

    public int count(int what) {
        loaded();
        within(what, 10);
        int ones = 0;
        for (int k : world.kind) {
            ones += k;
        }
        int[] counts = {world.n, edges(world.friend), edges(graph()), world.pairs(), world.n - 2 * world.pairs(),
            world.rule, ones, world.made, world.failed, world.blossoms, world.lost};
        return counts[what];
    }

    public int pupil(int p, int what) {
        there(p);
        within(what, 3);
        int[] numbers = {world.kind[p], trues(world.friend[p]), trues(graph()[p]), world.mate[p]};
        return numbers[what];
    }

    public boolean friends(int a, int b) {
        there(a);
        there(b);
        return world.friend[a][b];
    }

    public int friendAt(int p, int i) {
        there(p);
        List<Integer> row = new ArrayList<>();
        for (int q = 0; q < world.n; q++) {
            if (graph()[p][q]) {
                row.add(q);
            }
        }
        return i >= 0 && i < row.size() ? row.get(i) : NONE;
    }

    public int whyNot(int a, int b) {
        there(a);
        there(b);
        if (a == b) {
            return 1;
        }
        if (!world.friend[a][b]) {
            return 2;
        }
        if (!world.ruleAllows(world.rule, a, b)) {
            return 3;
        }
        return world.mate[a] != NONE ? 4 : world.mate[b] != NONE ? 5 : 0;
    }

    // ---- the search

    public int search(int what) {
        loaded();
        within(what, 7);
        Hunt h = world.hunt;
        if (h == null) {
            return what == 0 ? 0 : NONE;
        }
        int outer = 0;
        int inner = 0;
        for (int l : h.label) {
            outer += l == 1 ? 1 : 0;
            inner += l == 2 ? 1 : 0;
        }
        int[] all = {h.status, h.root, h.steps, h.blossoms, outer, inner, h.queue.size(), h.groups.size()};
        return all[what];
    }

    public int label(int p) {
        there(p);
        return world.hunt == null ? NONE : world.hunt.label[p];
    }

    public int group(int p) {
        there(p);
        return world.hunt == null ? 0 : bits(world.hunt.groupOf(p));
    }

    private static int bits(Iterable<Integer> set) {
        int b = 0;
        for (int p : set) {
            b |= 1 << p;
        }
        return b;
    }

    public int base(int p) {
        there(p);
        return world.hunt == null ? NONE : world.hunt.bases.get(world.hunt.groupOf(p));
    }

    public int link(int p) {
        there(p);
        return world.hunt == null ? NONE : world.hunt.link[p];
    }

    public int bridge(int p, boolean far) {
        there(p);
        return world.hunt == null ? NONE : far ? world.hunt.far[p] : world.hunt.near[p];
    }

    public int queueAt(int i) {
        loaded();
        Hunt h = world.hunt;
        return h == null || i < 0 || i >= h.queue.size() ? NONE : h.queue.get(i);
    }

    public int next() {
        loaded();
        Hunt h = world.hunt;
        if (h == null || h.status != 1) {
            return NONE;
        }
        int v = h.queue.get(0);
        for (int w = h.asked + 1; w < world.n; w++) {
            if (graph()[v][w]) {
                return 100 * v + w;
            }
        }
        return 100 * v + 99;
    }

    /** One step of a search in a world. */
    private static int stepIn(World w) {
        Hunt h = w.hunt;
        boolean[][] g = w.allowed(w.rule);
        h.steps++;
        int v = h.queue.get(0);
        int friend = h.asked + 1;
        while (friend < w.n && !g[v][friend]) {
            friend++;
        }
        if (friend >= w.n) {
            h.queue.remove(0);
            h.asked = -1;
            if (!h.queue.isEmpty()) {
                return 5;
            }
            h.status = 3;
            w.failed++;
            return 4;
        }
        h.asked = friend;
        if (h.label[friend] == 2 || h.groupOf(v).contains(friend)) {
            return 0;
        }
        if (h.label[friend] == 1) {
            blossom(w, v, friend);
            return 2;
        }
        if (w.mate[friend] == NONE) {
            List<Integer> way = way(w, v);
            for (int i = 1; i + 1 < way.size(); i += 2) {
                w.mate[way.get(i)] = way.get(i + 1);
                w.mate[way.get(i + 1)] = way.get(i);
            }
            w.mate[v] = friend;
            w.mate[friend] = v;
            h.status = 2;
            w.made++;
            return 3;
        }
        h.label[friend] = 2;
        h.link[friend] = v;
        h.label[w.mate[friend]] = 1;
        h.queue.add(w.mate[friend]);
        return 1;
    }

    /** The row of a group: this group, the one above it and so on. */
    private static List<TreeSet<Integer>> rowOf(World w, TreeSet<Integer> from) {
        Hunt h = w.hunt;
        List<TreeSet<Integer>> row = new ArrayList<>();
        TreeSet<Integer> g = from;
        row.add(g);
        while (!g.contains(h.root)) {
            int mate = w.mate[h.bases.get(g)];
            if (h.label[mate] != 2 || h.groupOf(mate).size() != 1) {
                throw new AssertionError("the mate of a base is not inner and alone");
            }
            g = h.groupOf(h.link[mate]);
            row.add(g);
        }
        return row;
    }

    private static void blossom(World w, int v, int friend) {
        Hunt h = w.hunt;
        h.blossoms++;
        w.blossoms++;
        List<TreeSet<Integer>> rowV = rowOf(w, h.groupOf(v));
        List<TreeSet<Integer>> rowW = rowOf(w, h.groupOf(friend));
        TreeSet<Integer> z = null;
        for (TreeSet<Integer> g : rowV) {
            if (z == null && rowW.contains(g)) {
                z = g;
            }
        }
        TreeSet<Integer> mates = new TreeSet<>();
        TreeSet<Integer> one = new TreeSet<>(z);
        int base = h.bases.get(z);
        List<TreeSet<Integer>> gone = new ArrayList<>(List.of(z));
        for (int side = 0; side < 2; side++) {
            for (TreeSet<Integer> g : side == 0 ? rowV : rowW) {
                if (g.equals(z)) {
                    break;
                }
                int mate = w.mate[h.bases.get(g)];
                mates.add(mate);
                h.near[mate] = side == 0 ? v : friend;
                h.far[mate] = side == 0 ? friend : v;
                gone.add(g);
                gone.add(h.groupOf(mate));
            }
        }
        for (TreeSet<Integer> g : gone) {
            h.groups.remove(g);
            h.bases.remove(g);
            one.addAll(g);
        }
        h.groups.add(one);
        h.bases.put(one, base);
        for (int m : mates) {
            h.label[m] = 1;
            h.queue.add(m);
        }
    }

    /** The WAY of an outer pupil, from what it is told to be. */
    private static List<Integer> way(World w, int p) {
        Hunt h = w.hunt;
        List<Integer> way = new ArrayList<>();
        if (p == h.root) {
            way.add(p);
        } else if (h.near[p] != NONE) {
            List<Integer> near = way(w, h.near[p]);
            List<Integer> begin = new ArrayList<>(near.subList(0, near.indexOf(p) + 1));
            Collections.reverse(begin);
            way.addAll(begin);
            way.addAll(way(w, h.far[p]));
        } else {
            way.add(p);
            way.add(w.mate[p]);
            way.addAll(way(w, h.link[w.mate[p]]));
        }
        if (way.size() != new TreeSet<>(way).size()) {
            throw new AssertionError("a way goes twice through a pupil");
        }
        return way;
    }

    private List<Integer> toldWay(int p) {
        Hunt h = world.hunt;
        return h == null || h.status == 2 || h.label[p] != 1 ? List.of() : way(world, p);
    }

    public int wayLength(int p) {
        there(p);
        return toldWay(p).size();
    }

    public int wayAt(int p, int i) {
        there(p);
        List<Integer> way = toldWay(p);
        return i >= 0 && i < way.size() ? way.get(i) : NONE;
    }

    public int blossoms() {
        loaded();
        int c = 0;
        if (world.hunt != null) {
            for (TreeSet<Integer> g : world.hunt.groups) {
                c += g.size() >= 3 ? 1 : 0;
            }
        }
        return c;
    }

    // ---- the most pairs

    private boolean[][] graph() {
        return world.allowed(world.rule);
    }

    private static final Map<String, List<int[]>> LISTED = new HashMap<>();
    private static final Map<String, Integer> MOSTS = new HashMap<>();
    private static final Map<String, Integer> PROOFS = new HashMap<>();

    /** All pairings with most pairs, as rows of mates. */
    private static List<int[]> pairingsOf(boolean[][] g) {
        return LISTED.computeIfAbsent(Arrays.deepToString(g), k -> {
            List<int[]> found = new ArrayList<>();
            int[] mate = new int[g.length];
            Arrays.fill(mate, NONE);
            list(g, 0, mate, 0, found, new int[1]);
            return found;
        });
    }

    private static void list(boolean[][] g, int p, int[] mate, int pairs, List<int[]> found, int[] best) {
        if (p == g.length) {
            if (pairs > best[0]) {
                best[0] = pairs;
                found.clear();
            }
            if (pairs == best[0]) {
                found.add(mate.clone());
            }
            return;
        }
        list(g, p + 1, mate, pairs, found, best);
        if (mate[p] == NONE) {
            for (int q = p + 1; q < g.length; q++) {
                if (g[p][q] && mate[q] == NONE) {
                    mate[p] = q;
                    mate[q] = p;
                    list(g, p + 1, mate, pairs + 1, found, best);
                    mate[p] = NONE;
                    mate[q] = NONE;
                }
            }
        }
    }

    private static int pairsOf(int[] mate) {
        int c = 0;
        for (int m : mate) {
            c += m == NONE ? 0 : 1;
        }
        return c / 2;
    }

    /** The most pairs of any friends, by trying each pair of the first pupil. */
    private static int mostOf(boolean[][] g) {
        return MOSTS.computeIfAbsent(Arrays.deepToString(g), k -> tryMost(g, 0, new boolean[g.length]));
    }

    private static int tryMost(boolean[][] g, int p, boolean[] used) {
        if (p == g.length) {
            return 0;
        }
        int best = tryMost(g, p + 1, used);
        for (int q = p + 1; q < g.length && !used[p]; q++) {
            if (g[p][q] && !used[q]) {
                used[q] = true;
                best = Math.max(best, 1 + tryMost(g, p + 1, used));
                used[q] = false;
            }
        }
        return best;
    }

    public int most() {
        loaded();
        return pairsOf(pairingsOf(graph()).get(0));
    }

    public boolean isMost() {
        loaded();
        return world.pairs() == most();
    }

    public int deficit() {
        loaded();
        return world.n - 2 * most();
    }

    private TreeSet<Integer> looseOnes() {
        TreeSet<Integer> set = new TreeSet<>();
        for (int[] pairing : pairingsOf(graph())) {
            for (int p = 0; p < world.n; p++) {
                if (pairing[p] == NONE) {
                    set.add(p);
                }
            }
        }
        return set;
    }

    private TreeSet<Integer> barrierOnes() {
        TreeSet<Integer> loose = looseOnes();
        TreeSet<Integer> set = new TreeSet<>();
        for (int p = 0; p < world.n; p++) {
            for (int q : loose) {
                if (!loose.contains(p) && graph()[p][q]) {
                    set.add(p);
                }
            }
        }
        return set;
    }

    public int loose() {
        loaded();
        return bits(looseOnes());
    }

    public int barrier() {
        loaded();
        return bits(barrierOnes());
    }

    public int rest() {
        loaded();
        return (1 << world.n) - 1 - loose() - barrier();
    }

    private static List<TreeSet<Integer>> parts(boolean[][] g, TreeSet<Integer> within) {
        List<TreeSet<Integer>> parts = new ArrayList<>();
        TreeSet<Integer> left = new TreeSet<>(within);
        while (!left.isEmpty()) {
            TreeSet<Integer> part = new TreeSet<>();
            ArrayDeque<Integer> todo = new ArrayDeque<>(List.of(left.first()));
            while (!todo.isEmpty()) {
                int p = todo.pop();
                if (part.add(p)) {
                    for (int q : within) {
                        if (g[p][q]) {
                            todo.push(q);
                        }
                    }
                }
            }
            left.removeAll(part);
            parts.add(part);
        }
        return parts;
    }

    public int oddSets() {
        loaded();
        return parts(graph(), looseOnes()).size();
    }

    public int oddSet(int i) {
        loaded();
        List<TreeSet<Integer>> parts = parts(graph(), looseOnes());
        return i >= 0 && i < parts.size() ? bits(parts.get(i)) : NONE;
    }

    public int proof() {
        return most();
    }

    private int oddParts(boolean[][] g, int without) {
        TreeSet<Integer> others = new TreeSet<>();
        for (int p = 0; p < world.n; p++) {
            if ((without >> p & 1) == 0) {
                others.add(p);
            }
        }
        int c = 0;
        for (TreeSet<Integer> part : parts(g, others)) {
            c += part.size() % 2;
        }
        return c;
    }

    private void setOfPupils(int set) {
        loaded();
        if (set < 0 || set >= 1 << world.n) {
            throw new IllegalArgumentException();
        }
    }

    public int odds(int set) {
        setOfPupils(set);
        return oddParts(graph(), set);
    }

    public boolean isProof(int set) {
        setOfPupils(set);
        return (world.n + Integer.bitCount(set) - oddParts(graph(), set)) / 2 == most();
    }

    public int smallestProof() {
        loaded();
        boolean[][] g = graph();
        String key = Arrays.deepToString(g);
        Integer known = PROOFS.get(key);
        if (known != null) {
            return known;
        }
        int m = most();
        for (int size = 0; size <= world.n; size++) {
            for (int set = 0; set < 1 << world.n; set++) {
                if (Integer.bitCount(set) == size && (world.n + size - oddParts(g, set)) / 2 == m) {
                    PROOFS.put(key, set);
                    return set;
                }
            }
        }
        throw new AssertionError("no proof");
    }

    public boolean inSome(int a, int b) {
        there(a);
        there(b);
        for (int[] pairing : pairingsOf(graph())) {
            if (pairing[a] == b) {
                return true;
            }
        }
        return false;
    }

    public boolean inAll(int a, int b) {
        there(a);
        there(b);
        for (int[] pairing : pairingsOf(graph())) {
            if (pairing[a] != b) {
                return false;
            }
        }
        return true;
    }

    public long pairings() {
        loaded();
        return pairingsOf(graph()).size();
    }

    public int firstMate(int p) {
        there(p);
        int[] first = null;
        for (int[] pairing : pairingsOf(graph())) {
            if (first == null || isBefore(pairing, first)) {
                first = pairing;
            }
        }
        return first[p];
    }

    private static boolean isBefore(int[] one, int[] other) {
        for (int p = 0; p < one.length; p++) {
            if (one[p] != other[p]) {
                return one[p] != NONE && (other[p] == NONE || one[p] < other[p]);
            }
        }
        return false;
    }

    // ---- what would be

    public int mostWithout(int p) {
        there(p);
        boolean[][] g = graph();
        for (int q = 0; q < world.n; q++) {
            g[p][q] = false;
            g[q][p] = false;
        }
        return mostOf(g);
    }

    public int mostIf(int a, int b) {
        there(a);
        there(b);
        if (a == b) {
            return most();
        }
        World other = world.copy();
        other.friend[a][b] = !other.friend[a][b];
        other.friend[b][a] = other.friend[a][b];
        return mostOf(other.allowed(other.rule));
    }

    public int mostBy(int rule) {
        loaded();
        within(rule, 2);
        return mostOf(world.allowed(rule));
    }

    public int bestRule() {
        loaded();
        int best = 0;
        for (int rule = 1; rule <= 2; rule++) {
            if (mostBy(rule) > mostBy(best)) {
                best = rule;
            }
        }
        return best;
    }

    public int helps() {
        loaded();
        int c = 0;
        for (int a = 0; a < world.n; a++) {
            for (int b = a + 1; b < world.n; b++) {
                if (!world.friend[a][b] && mostIf(a, b) > most()) {
                    c++;
                }
            }
        }
        return c;
    }

    private World tried(int p) {
        World other = world.copy();
        other.hunt = new Hunt(p, other.n);
        while (other.hunt.status == 1) {
            stepIn(other);
        }
        return other;
    }

    public int wouldEnd(int p) {
        there(p);
        return world.mate[p] != NONE ? NONE : tried(p).hunt.status;
    }

    public int stepsTo(int p) {
        there(p);
        return world.mate[p] != NONE ? NONE : tried(p).hunt.steps;
    }

    // ---- other numbers, texts

    public double meanFriends() {
        loaded();
        return (double) (2 * edges(graph())) / (double) world.n;
    }

    public float pairedShare() {
        loaded();
        return (float) (2 * world.pairs()) / (float) world.n;
    }

    private int write(List<String> items, String between) {
        text = items.isEmpty() ? "." : String.join(between, items);
        return text.length();
    }

    public int writePairs() {
        loaded();
        List<String> items = new ArrayList<>();
        for (int p = 0; p < world.n; p++) {
            if (world.mate[p] > p) {
                items.add(p + "-" + world.mate[p]);
            }
        }
        return write(items, " ");
    }

    public int writeGroups() {
        loaded();
        List<String> items = new ArrayList<>();
        for (int p = 0; p < world.n && world.hunt != null; p++) {
            TreeSet<Integer> g = world.hunt.groupOf(p);
            if (g.first() == p && (g.size() > 1 || world.hunt.label[p] != 0)) {
                List<String> names = new ArrayList<>();
                for (int q : g) {
                    names.add("" + q);
                }
                items.add(String.join("+", names) + (world.hunt.label[p] == 1 ? "o" : "i"));
            }
        }
        return write(items, " ");
    }

    public int writeWay(int p) {
        there(p);
        List<String> items = new ArrayList<>();
        for (int q : toldWay(p)) {
            items.add("" + q);
        }
        return write(items, ">");
    }

    public int textByte(int i) {
        if (i < 0 || i >= text.length()) {
            throw new IndexOutOfBoundsException();
        }
        return text.charAt(i);
    }

    // ---- changes

    private void change(boolean endsSearch) {
        undos.push(world.copy());
        if (undos.size() > 8) {
            undos.removeLast();
        }
        if (endsSearch) {
            world.hunt = null;
        }
    }

    public int seek(int p) {
        there(p);
        if (world.mate[p] != NONE) {
            throw new IllegalArgumentException();
        }
        change(false);
        world.hunt = new Hunt(p, world.n);
        return trues(graph()[p]);
    }

    private void going() {
        loaded();
        if (world.hunt == null || world.hunt.status != 1) {
            throw new IllegalArgumentException();
        }
    }

    public int step() {
        going();
        change(false);
        return stepIn(world);
    }

    public int run() {
        going();
        change(false);
        int steps = 0;
        while (world.hunt.status == 1) {
            stepIn(world);
            steps++;
        }
        return steps;
    }

    public int fill() {
        loaded();
        change(true);
        for (int p = 0; p < world.n; p++) {
            if (world.mate[p] == NONE) {
                world.hunt = new Hunt(p, world.n);
                while (world.hunt.status == 1) {
                    stepIn(world);
                }
            }
        }
        world.hunt = null;
        return world.pairs();
    }

    public int pair(int a, int b) {
        if (whyNot(a, b) != 0) {
            throw new IllegalArgumentException();
        }
        change(true);
        world.mate[a] = b;
        world.mate[b] = a;
        return world.pairs();
    }

    public int part(int p) {
        there(p);
        int q = world.mate[p];
        if (q == NONE) {
            throw new IllegalArgumentException();
        }
        change(true);
        world.mate[p] = NONE;
        world.mate[q] = NONE;
        world.lost++;
        return q;
    }

    public int flip(int p) {
        there(p);
        List<Integer> way = toldWay(p);
        if (way.isEmpty()) {
            throw new IllegalArgumentException();
        }
        change(true);
        world.mate[p] = NONE;
        for (int i = 1; i + 1 < way.size(); i += 2) {
            world.mate[way.get(i)] = way.get(i + 1);
            world.mate[way.get(i + 1)] = way.get(i);
        }
        return world.mate[way.get(way.size() - 1)];
    }

    public int befriend(int a, int b, boolean on) {
        there(a);
        there(b);
        if (a == b) {
            throw new IllegalArgumentException();
        }
        change(true);
        world.friend[a][b] = on;
        world.friend[b][a] = on;
        world.partAll();
        return edges(world.friend);
    }

    public int setKind(int p, int kind) {
        there(p);
        within(kind, 1);
        change(true);
        int before = world.kind[p];
        world.kind[p] = kind;
        world.partAll();
        return before;
    }

    public int setRule(int rule) {
        loaded();
        within(rule, 2);
        change(true);
        int before = world.rule;
        world.rule = rule;
        world.partAll();
        return before;
    }

    public int undo() {
        if (undos.isEmpty()) {
            throw new IllegalStateException();
        }
        world = undos.pop();
        return undos.size();
    }

    public int undoable() {
        return undos.size();
    }

    public int save(int slot) {
        loaded();
        if (slot < 0 || slot > 1) {
            throw new IndexOutOfBoundsException();
        }
        slots[slot] = world.copy();
        return world.pairs();
    }

    public int restore(int slot) {
        if (slot < 0 || slot > 1) {
            throw new IndexOutOfBoundsException();
        }
        if (slots[slot] == null) {
            throw new IllegalStateException();
        }
        world = slots[slot].copy();
        undos.clear();
        return world.pairs();
    }
}
